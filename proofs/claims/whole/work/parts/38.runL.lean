/-! Constructors. Written by wip/whole/prog. -/
def cr_36_4_0 (r : xm_I → Nat → Option xm_I) : xm_I → Nat → Option xm_I := (xm_up (xm_up (xm_up r (2, 0, 0) 0 (some (3, 0, 0))) (2, 0, 0) 1 (some (4, 0, 0))) (2, 0, 0) 2 (some (5, 0, 0)))
set_option maxRecDepth 8000 in
theorem ct_36_4_0 {L : Nat} {fi : FI} {fl : FL} {r : xm_I → Nat → Option xm_I} {d : Nat} : xm_C (en 4 L) (d + 2) true 36 [xm_r (2, 0, 0), xm_i (4 : Int32)] ((3, 23), fi, fl, r) (.inl none, ((6, 36), fi, fl, cr_36_4_0 r)) := by
  suffices key : ∀ (E : xm_E) (R : xm_O), E = en 4 L → ((.inl none, ((6, 36), fi, fl, cr_36_4_0 r)) : xm_O) = R → xm_G (en 4 L) (d + 1) true 36 0 [some (xm_r (2, 0, 0)), some (xm_i (4 : Int32))] [] ((3, 23), fi, fl, r) R from go_inr (by decide) (Nat.le_of_ble_eq_true rfl) (key _ _ rfl rfl)
  intro E R hE hR
  refine pg_36_0 rfl ?_
  refine pg_36_1 (Nat.le_of_ble_eq_true rfl) ?_
  refine pg_36_4 rfl ?_
  refine pg_36_5 rfl ?_
  refine pg_36_6 (n := 4) (rfl : (4 : Int32) = nI 4) (by decide) (en_a (a := (3, 0, 0)) (by decide +kernel)) (en_k (by decide +kernel)) ?_
  show xm_G (en 4 L) (d + 1) true 36 8 [some (xm_r (2, 0, 0)), some (xm_i (4 : Int32))] [xm_r (3, 0, 0), xm_r (2, 0, 0)] ((4, 27), fi, fl, r) R
  refine pg_36_8 (en_ok (by decide +kernel)) ?_
  refine pg_36_11 rfl ?_
  refine pg_36_12 rfl ?_
  refine pg_36_13 (n := 4) (rfl : (4 : Int32) = nI 4) (by decide) (en_a (a := (4, 0, 0)) (by decide +kernel)) (en_k (by decide +kernel)) ?_
  show xm_G (en 4 L) (d + 1) true 36 15 [some (xm_r (2, 0, 0)), some (xm_i (4 : Int32))] [xm_r (4, 0, 0), xm_r (2, 0, 0)] ((5, 31), fi, fl, (xm_up r (2, 0, 0) 0 (some (3, 0, 0)))) R
  refine pg_36_15 (en_ok (by decide +kernel)) ?_
  refine pg_36_18 rfl ?_
  refine pg_36_19 rfl ?_
  refine pg_36_20 ?_
  refine pg_36_21 ?_
  refine go_top (y := (5 : Int32)) (by decide) ?_
  refine pg_36_22 (n := 5) (rfl : (5 : Int32) = nI 5) (by decide) (en_a (a := (5, 0, 0)) (by decide +kernel)) (en_k (by decide +kernel)) ?_
  show xm_G (en 4 L) (d + 1) true 36 24 [some (xm_r (2, 0, 0)), some (xm_i (4 : Int32))] [xm_r (5, 0, 0), xm_r (2, 0, 0)] ((6, 36), fi, fl, (xm_up (xm_up r (2, 0, 0) 0 (some (3, 0, 0))) (2, 0, 0) 1 (some (4, 0, 0)))) R
  refine pg_36_24 (en_ok (by decide +kernel)) ?_
  exact go_eq hR.symm (pg_36_27)
def cf_43_4_0 (fi : FI) : FI := (xm_up (xm_up (xm_up fi (7, 0, 0) 0 (0 : Int32)) (7, 0, 0) 1 (4 : Int32)) (8, 0, 0) 2 (sp_1 (4 : Int32)))
def cr_43_4_0 (r : xm_I → Nat → Option xm_I) : xm_I → Nat → Option xm_I := (xm_up (xm_up (xm_up (xm_up (xm_up (xm_up (xm_up (xm_up (xm_up (xm_up (xm_up (xm_up (xm_up (xm_up (xm_up (xm_up (xm_up (xm_up (xm_up (xm_up (xm_up (xm_up (xm_up (xm_up r (7, 0, 0) 4 (some (8, 0, 0))) (9, 0, 0) 0 (some (10, 0, 0))) (7, 0, 0) 5 (some (9, 0, 0))) (7, 0, 0) 6 (some (11, 0, 0))) (9, 0, 6) 0 (some (10, 0, 6))) (11, 0, 0) 0 (some (9, 0, 6))) (9, 0, 7) 0 (some (10, 0, 7))) (11, 0, 0) 1 (some (9, 0, 7))) (9, 0, 8) 0 (some (10, 0, 8))) (11, 0, 0) 2 (some (9, 0, 8))) (9, 0, 9) 0 (some (10, 0, 9))) (11, 0, 0) 3 (some (9, 0, 9))) (7, 0, 0) 7 (some (12, 0, 0))) (9, 0, 2) 0 (some (10, 0, 2))) (12, 0, 0) 0 (some (9, 0, 2))) (9, 0, 3) 0 (some (10, 0, 3))) (12, 0, 0) 1 (some (9, 0, 3))) (9, 0, 4) 0 (some (10, 0, 4))) (12, 0, 0) 2 (some (9, 0, 4))) (9, 0, 5) 0 (some (10, 0, 5))) (12, 0, 0) 3 (some (9, 0, 5))) (9, 0, 1) 0 (some (10, 0, 1))) (7, 0, 0) 8 (some (9, 0, 1))) (7, 0, 0) 9 (some (13, 0, 0)))
set_option maxRecDepth 8000 in
theorem ct_43_4_0 {L : Nat} {fi : FI} {fl : FL} {r : xm_I → Nat → Option xm_I} {d : Nat} : xm_C (en 4 L) (d + 2) true 43 [xm_r (7, 0, 0), xm_i (0 : Int32), xm_i (4 : Int32)] ((8, 53), fi, fl, r) (.inl none, ((32, 129), cf_43_4_0 fi, fl, cr_43_4_0 r)) := by
  suffices key : ∀ (E : xm_E) (R : xm_O), E = en 4 L → ((.inl none, ((32, 129), cf_43_4_0 fi, fl, cr_43_4_0 r)) : xm_O) = R → xm_G (en 4 L) (d + 1) true 43 0 [some (xm_r (7, 0, 0)), some (xm_i (0 : Int32)), some (xm_i (4 : Int32)), none] [] ((8, 53), fi, fl, r) R from go_inr (by decide) (Nat.le_of_ble_eq_true rfl) (key _ _ rfl rfl)
  intro E R hE hR
  refine pg_43_0 rfl ?_
  refine pg_43_1 (Nat.le_of_ble_eq_true rfl) ?_
  refine pg_43_4 rfl ?_
  refine pg_43_5 rfl ?_
  refine pg_43_6 (en_ok (by decide +kernel)) ?_
  refine pg_43_9 rfl ?_
  refine pg_43_10 rfl ?_
  refine pg_43_11 (en_ok (by decide +kernel)) ?_
  refine pg_43_14 rfl ?_
  refine pg_43_15 ?_
  refine pg_43_16 (n := 4) (rfl : (4 : Int32) = nI 4) (by decide) (en_a (a := (8, 0, 0)) (by decide +kernel)) (en_k (by decide +kernel)) ?_
  show xm_G (en 4 L) (d + 1) true 43 18 [some (xm_r (7, 0, 0)), some (xm_i (0 : Int32)), some (xm_i (4 : Int32)), none] [xm_r (8, 0, 0), xm_r (7, 0, 0)] ((9, 57), (xm_up (xm_up fi (7, 0, 0) 0 (0 : Int32)) (7, 0, 0) 1 (4 : Int32)), fl, r) R
  refine pg_43_18 (en_ok (by decide +kernel)) ?_
  refine pg_43_21 rfl ?_
  refine pg_43_22 (en_ok (by decide +kernel)) rfl ?_
  refine pg_43_25 ?_
  refine pg_43_26 rfl ?_
  refine pg_43_27 (Nat.le_of_ble_eq_true rfl) (ct_1 (x := (4 : Int32))) ?_
  refine pg_43_30 (en_ok (s := 4) (by decide +kernel)) (i := 2) (rfl : (2 : Int32) = nI 2) (by omega) (by omega) ?_
  refine pg_43_31 rfl ?_
  refine pg_43_32 (a := (9, 0, 0)) (en_a (by decide +kernel)) (en_k (by decide +kernel)) ?_
  show xm_G (en 4 L) (d + 1) true 43 35 [some (xm_r (7, 0, 0)), some (xm_i (0 : Int32)), some (xm_i (4 : Int32)), none] [xm_r (9, 0, 0), xm_r (7, 0, 0)] ((10, 59), (xm_up (xm_up (xm_up fi (7, 0, 0) 0 (0 : Int32)) (7, 0, 0) 1 (4 : Int32)) (8, 0, 0) 2 (sp_1 (4 : Int32))), fl, (xm_up r (7, 0, 0) 4 (some (8, 0, 0)))) R
  refine pg_43_35 rfl ?_
  refine pg_43_36 rfl ?_
  refine pg_43_37 (Nat.le_of_ble_eq_true rfl) (ct_61 (m := 4) (b := (10, 0, 0)) (rfl : (4 : Int32) = nI 4) (by decide) (en_a (by decide +kernel)) (en_k (by decide +kernel)) (en_ok (by decide +kernel))) ?_
  show xm_G (en 4 L) (d + 1) true 43 40 [some (xm_r (7, 0, 0)), some (xm_i (0 : Int32)), some (xm_i (4 : Int32)), none] [xm_r (9, 0, 0), xm_r (7, 0, 0)] ((11, 63), (xm_up (xm_up (xm_up fi (7, 0, 0) 0 (0 : Int32)) (7, 0, 0) 1 (4 : Int32)) (8, 0, 0) 2 (sp_1 (4 : Int32))), fl, (xm_up (xm_up r (7, 0, 0) 4 (some (8, 0, 0))) (9, 0, 0) 0 (some (10, 0, 0)))) R
  refine pg_43_40 (en_ok (by decide +kernel)) ?_
  refine pg_43_43 rfl ?_
  refine pg_43_44 rfl ?_
  refine pg_43_45 (n := 4) (rfl : (4 : Int32) = nI 4) (by decide) (en_a (a := (11, 0, 0)) (by decide +kernel)) (en_k (by decide +kernel)) ?_
  show xm_G (en 4 L) (d + 1) true 43 48 [some (xm_r (7, 0, 0)), some (xm_i (0 : Int32)), some (xm_i (4 : Int32)), none] [xm_r (11, 0, 0), xm_r (7, 0, 0)] ((12, 67), (xm_up (xm_up (xm_up fi (7, 0, 0) 0 (0 : Int32)) (7, 0, 0) 1 (4 : Int32)) (8, 0, 0) 2 (sp_1 (4 : Int32))), fl, (xm_up (xm_up (xm_up r (7, 0, 0) 4 (some (8, 0, 0))) (9, 0, 0) 0 (some (10, 0, 0))) (7, 0, 0) 5 (some (9, 0, 0)))) R
  refine pg_43_48 (en_ok (by decide +kernel)) ?_
  refine pg_43_51 ?_
  refine pg_43_52 (lv' := [some (xm_r (7, 0, 0)), some (xm_i (0 : Int32)), some (xm_i (4 : Int32)), some (xm_i (0 : Int32))]) rfl ?_
  refine pg_43_53 rfl ?_
  refine pg_43_54 rfl ?_
  refine pg_43_55 (fun hc => absurd hc (by decide)) (fun _ => ?_)
  refine pg_43_58 rfl ?_
  refine pg_43_59 (en_ok (by decide +kernel)) rfl ?_
  refine pg_43_62 rfl ?_
  refine pg_43_63 (a := (9, 0, 6)) (en_a (by decide +kernel)) (en_k (by decide +kernel)) ?_
  show xm_G (en 4 L) (d + 1) true 43 66 [some (xm_r (7, 0, 0)), some (xm_i (0 : Int32)), some (xm_i (4 : Int32)), some (xm_i (0 : Int32))] [xm_r (9, 0, 6), xm_i (0 : Int32), xm_r (11, 0, 0)] ((13, 69), (xm_up (xm_up (xm_up fi (7, 0, 0) 0 (0 : Int32)) (7, 0, 0) 1 (4 : Int32)) (8, 0, 0) 2 (sp_1 (4 : Int32))), fl, (xm_up (xm_up (xm_up (xm_up r (7, 0, 0) 4 (some (8, 0, 0))) (9, 0, 0) 0 (some (10, 0, 0))) (7, 0, 0) 5 (some (9, 0, 0))) (7, 0, 0) 6 (some (11, 0, 0)))) R
  refine pg_43_66 rfl ?_
  refine pg_43_67 rfl ?_
  refine pg_43_68 (Nat.le_of_ble_eq_true rfl) (ct_61 (m := 4) (b := (10, 0, 6)) (rfl : (4 : Int32) = nI 4) (by decide) (en_a (by decide +kernel)) (en_k (by decide +kernel)) (en_ok (by decide +kernel))) ?_
  show xm_G (en 4 L) (d + 1) true 43 71 [some (xm_r (7, 0, 0)), some (xm_i (0 : Int32)), some (xm_i (4 : Int32)), some (xm_i (0 : Int32))] [xm_r (9, 0, 6), xm_i (0 : Int32), xm_r (11, 0, 0)] ((14, 73), (xm_up (xm_up (xm_up fi (7, 0, 0) 0 (0 : Int32)) (7, 0, 0) 1 (4 : Int32)) (8, 0, 0) 2 (sp_1 (4 : Int32))), fl, (xm_up (xm_up (xm_up (xm_up (xm_up r (7, 0, 0) 4 (some (8, 0, 0))) (9, 0, 0) 0 (some (10, 0, 0))) (7, 0, 0) 5 (some (9, 0, 0))) (7, 0, 0) 6 (some (11, 0, 0))) (9, 0, 6) 0 (some (10, 0, 6)))) R
  refine pg_43_71 (en_ok (t := 4) (s := 0) (by decide +kernel)) (by decide) (by decide) (en_ok (s := 4) (by decide +kernel)) (i := 0) (rfl : (0 : Int32) = nI 0) (by decide) (by decide) ?_
  refine pg_43_72 (y := (1 : Int32)) (lv' := [some (xm_r (7, 0, 0)), some (xm_i (0 : Int32)), some (xm_i (4 : Int32)), some (xm_i (1 : Int32))]) rfl (by decide) rfl ?_
  refine pg_43_75 ?_
  refine pg_43_53 rfl ?_
  refine pg_43_54 rfl ?_
  refine pg_43_55 (fun hc => absurd hc (by decide)) (fun _ => ?_)
  refine pg_43_58 rfl ?_
  refine pg_43_59 (en_ok (by decide +kernel)) rfl ?_
  refine pg_43_62 rfl ?_
  refine pg_43_63 (a := (9, 0, 7)) (en_a (by decide +kernel)) (en_k (by decide +kernel)) ?_
  show xm_G (en 4 L) (d + 1) true 43 66 [some (xm_r (7, 0, 0)), some (xm_i (0 : Int32)), some (xm_i (4 : Int32)), some (xm_i (1 : Int32))] [xm_r (9, 0, 7), xm_i (1 : Int32), xm_r (11, 0, 0)] ((15, 75), (xm_up (xm_up (xm_up fi (7, 0, 0) 0 (0 : Int32)) (7, 0, 0) 1 (4 : Int32)) (8, 0, 0) 2 (sp_1 (4 : Int32))), fl, (xm_up (xm_up (xm_up (xm_up (xm_up (xm_up r (7, 0, 0) 4 (some (8, 0, 0))) (9, 0, 0) 0 (some (10, 0, 0))) (7, 0, 0) 5 (some (9, 0, 0))) (7, 0, 0) 6 (some (11, 0, 0))) (9, 0, 6) 0 (some (10, 0, 6))) (11, 0, 0) 0 (some (9, 0, 6)))) R
  refine pg_43_66 rfl ?_
  refine pg_43_67 rfl ?_
  refine pg_43_68 (Nat.le_of_ble_eq_true rfl) (ct_61 (m := 4) (b := (10, 0, 7)) (rfl : (4 : Int32) = nI 4) (by decide) (en_a (by decide +kernel)) (en_k (by decide +kernel)) (en_ok (by decide +kernel))) ?_
  show xm_G (en 4 L) (d + 1) true 43 71 [some (xm_r (7, 0, 0)), some (xm_i (0 : Int32)), some (xm_i (4 : Int32)), some (xm_i (1 : Int32))] [xm_r (9, 0, 7), xm_i (1 : Int32), xm_r (11, 0, 0)] ((16, 79), (xm_up (xm_up (xm_up fi (7, 0, 0) 0 (0 : Int32)) (7, 0, 0) 1 (4 : Int32)) (8, 0, 0) 2 (sp_1 (4 : Int32))), fl, (xm_up (xm_up (xm_up (xm_up (xm_up (xm_up (xm_up r (7, 0, 0) 4 (some (8, 0, 0))) (9, 0, 0) 0 (some (10, 0, 0))) (7, 0, 0) 5 (some (9, 0, 0))) (7, 0, 0) 6 (some (11, 0, 0))) (9, 0, 6) 0 (some (10, 0, 6))) (11, 0, 0) 0 (some (9, 0, 6))) (9, 0, 7) 0 (some (10, 0, 7)))) R
  refine pg_43_71 (en_ok (t := 4) (s := 0) (by decide +kernel)) (by decide) (by decide) (en_ok (s := 4) (by decide +kernel)) (i := 1) (rfl : (1 : Int32) = nI 1) (by decide) (by decide) ?_
  refine pg_43_72 (y := (2 : Int32)) (lv' := [some (xm_r (7, 0, 0)), some (xm_i (0 : Int32)), some (xm_i (4 : Int32)), some (xm_i (2 : Int32))]) rfl (by decide) rfl ?_
  refine pg_43_75 ?_
  refine pg_43_53 rfl ?_
  refine pg_43_54 rfl ?_
  refine pg_43_55 (fun hc => absurd hc (by decide)) (fun _ => ?_)
  refine pg_43_58 rfl ?_
  refine pg_43_59 (en_ok (by decide +kernel)) rfl ?_
  refine pg_43_62 rfl ?_
  refine pg_43_63 (a := (9, 0, 8)) (en_a (by decide +kernel)) (en_k (by decide +kernel)) ?_
  show xm_G (en 4 L) (d + 1) true 43 66 [some (xm_r (7, 0, 0)), some (xm_i (0 : Int32)), some (xm_i (4 : Int32)), some (xm_i (2 : Int32))] [xm_r (9, 0, 8), xm_i (2 : Int32), xm_r (11, 0, 0)] ((17, 81), (xm_up (xm_up (xm_up fi (7, 0, 0) 0 (0 : Int32)) (7, 0, 0) 1 (4 : Int32)) (8, 0, 0) 2 (sp_1 (4 : Int32))), fl, (xm_up (xm_up (xm_up (xm_up (xm_up (xm_up (xm_up (xm_up r (7, 0, 0) 4 (some (8, 0, 0))) (9, 0, 0) 0 (some (10, 0, 0))) (7, 0, 0) 5 (some (9, 0, 0))) (7, 0, 0) 6 (some (11, 0, 0))) (9, 0, 6) 0 (some (10, 0, 6))) (11, 0, 0) 0 (some (9, 0, 6))) (9, 0, 7) 0 (some (10, 0, 7))) (11, 0, 0) 1 (some (9, 0, 7)))) R
  refine pg_43_66 rfl ?_
  refine pg_43_67 rfl ?_
  refine pg_43_68 (Nat.le_of_ble_eq_true rfl) (ct_61 (m := 4) (b := (10, 0, 8)) (rfl : (4 : Int32) = nI 4) (by decide) (en_a (by decide +kernel)) (en_k (by decide +kernel)) (en_ok (by decide +kernel))) ?_
  show xm_G (en 4 L) (d + 1) true 43 71 [some (xm_r (7, 0, 0)), some (xm_i (0 : Int32)), some (xm_i (4 : Int32)), some (xm_i (2 : Int32))] [xm_r (9, 0, 8), xm_i (2 : Int32), xm_r (11, 0, 0)] ((18, 85), (xm_up (xm_up (xm_up fi (7, 0, 0) 0 (0 : Int32)) (7, 0, 0) 1 (4 : Int32)) (8, 0, 0) 2 (sp_1 (4 : Int32))), fl, (xm_up (xm_up (xm_up (xm_up (xm_up (xm_up (xm_up (xm_up (xm_up r (7, 0, 0) 4 (some (8, 0, 0))) (9, 0, 0) 0 (some (10, 0, 0))) (7, 0, 0) 5 (some (9, 0, 0))) (7, 0, 0) 6 (some (11, 0, 0))) (9, 0, 6) 0 (some (10, 0, 6))) (11, 0, 0) 0 (some (9, 0, 6))) (9, 0, 7) 0 (some (10, 0, 7))) (11, 0, 0) 1 (some (9, 0, 7))) (9, 0, 8) 0 (some (10, 0, 8)))) R
  refine pg_43_71 (en_ok (t := 4) (s := 0) (by decide +kernel)) (by decide) (by decide) (en_ok (s := 4) (by decide +kernel)) (i := 2) (rfl : (2 : Int32) = nI 2) (by decide) (by decide) ?_
  refine pg_43_72 (y := (3 : Int32)) (lv' := [some (xm_r (7, 0, 0)), some (xm_i (0 : Int32)), some (xm_i (4 : Int32)), some (xm_i (3 : Int32))]) rfl (by decide) rfl ?_
  refine pg_43_75 ?_
  refine pg_43_53 rfl ?_
  refine pg_43_54 rfl ?_
  refine pg_43_55 (fun hc => absurd hc (by decide)) (fun _ => ?_)
  refine pg_43_58 rfl ?_
  refine pg_43_59 (en_ok (by decide +kernel)) rfl ?_
  refine pg_43_62 rfl ?_
  refine pg_43_63 (a := (9, 0, 9)) (en_a (by decide +kernel)) (en_k (by decide +kernel)) ?_
  show xm_G (en 4 L) (d + 1) true 43 66 [some (xm_r (7, 0, 0)), some (xm_i (0 : Int32)), some (xm_i (4 : Int32)), some (xm_i (3 : Int32))] [xm_r (9, 0, 9), xm_i (3 : Int32), xm_r (11, 0, 0)] ((19, 87), (xm_up (xm_up (xm_up fi (7, 0, 0) 0 (0 : Int32)) (7, 0, 0) 1 (4 : Int32)) (8, 0, 0) 2 (sp_1 (4 : Int32))), fl, (xm_up (xm_up (xm_up (xm_up (xm_up (xm_up (xm_up (xm_up (xm_up (xm_up r (7, 0, 0) 4 (some (8, 0, 0))) (9, 0, 0) 0 (some (10, 0, 0))) (7, 0, 0) 5 (some (9, 0, 0))) (7, 0, 0) 6 (some (11, 0, 0))) (9, 0, 6) 0 (some (10, 0, 6))) (11, 0, 0) 0 (some (9, 0, 6))) (9, 0, 7) 0 (some (10, 0, 7))) (11, 0, 0) 1 (some (9, 0, 7))) (9, 0, 8) 0 (some (10, 0, 8))) (11, 0, 0) 2 (some (9, 0, 8)))) R
  refine pg_43_66 rfl ?_
  refine pg_43_67 rfl ?_
  refine pg_43_68 (Nat.le_of_ble_eq_true rfl) (ct_61 (m := 4) (b := (10, 0, 9)) (rfl : (4 : Int32) = nI 4) (by decide) (en_a (by decide +kernel)) (en_k (by decide +kernel)) (en_ok (by decide +kernel))) ?_
  show xm_G (en 4 L) (d + 1) true 43 71 [some (xm_r (7, 0, 0)), some (xm_i (0 : Int32)), some (xm_i (4 : Int32)), some (xm_i (3 : Int32))] [xm_r (9, 0, 9), xm_i (3 : Int32), xm_r (11, 0, 0)] ((20, 91), (xm_up (xm_up (xm_up fi (7, 0, 0) 0 (0 : Int32)) (7, 0, 0) 1 (4 : Int32)) (8, 0, 0) 2 (sp_1 (4 : Int32))), fl, (xm_up (xm_up (xm_up (xm_up (xm_up (xm_up (xm_up (xm_up (xm_up (xm_up (xm_up r (7, 0, 0) 4 (some (8, 0, 0))) (9, 0, 0) 0 (some (10, 0, 0))) (7, 0, 0) 5 (some (9, 0, 0))) (7, 0, 0) 6 (some (11, 0, 0))) (9, 0, 6) 0 (some (10, 0, 6))) (11, 0, 0) 0 (some (9, 0, 6))) (9, 0, 7) 0 (some (10, 0, 7))) (11, 0, 0) 1 (some (9, 0, 7))) (9, 0, 8) 0 (some (10, 0, 8))) (11, 0, 0) 2 (some (9, 0, 8))) (9, 0, 9) 0 (some (10, 0, 9)))) R
  refine pg_43_71 (en_ok (t := 4) (s := 0) (by decide +kernel)) (by decide) (by decide) (en_ok (s := 4) (by decide +kernel)) (i := 3) (rfl : (3 : Int32) = nI 3) (by decide) (by decide) ?_
  refine pg_43_72 (y := (4 : Int32)) (lv' := [some (xm_r (7, 0, 0)), some (xm_i (0 : Int32)), some (xm_i (4 : Int32)), some (xm_i (4 : Int32))]) rfl (by decide) rfl ?_
  refine pg_43_75 ?_
  refine pg_43_53 rfl ?_
  refine pg_43_54 rfl ?_
  refine pg_43_55 (fun _ => ?_) (fun hc => absurd (by decide) hc)
  refine pg_43_78 rfl ?_
  refine pg_43_79 ?_
  refine pg_43_80 (n := 4) (rfl : (4 : Int32) = nI 4) (by decide) (en_a (a := (12, 0, 0)) (by decide +kernel)) (en_k (by decide +kernel)) ?_
  show xm_G (en 4 L) (d + 1) true 43 83 [some (xm_r (7, 0, 0)), some (xm_i (0 : Int32)), some (xm_i (4 : Int32)), some (xm_i (4 : Int32))] [xm_r (12, 0, 0), xm_r (7, 0, 0)] ((21, 95), (xm_up (xm_up (xm_up fi (7, 0, 0) 0 (0 : Int32)) (7, 0, 0) 1 (4 : Int32)) (8, 0, 0) 2 (sp_1 (4 : Int32))), fl, (xm_up (xm_up (xm_up (xm_up (xm_up (xm_up (xm_up (xm_up (xm_up (xm_up (xm_up (xm_up r (7, 0, 0) 4 (some (8, 0, 0))) (9, 0, 0) 0 (some (10, 0, 0))) (7, 0, 0) 5 (some (9, 0, 0))) (7, 0, 0) 6 (some (11, 0, 0))) (9, 0, 6) 0 (some (10, 0, 6))) (11, 0, 0) 0 (some (9, 0, 6))) (9, 0, 7) 0 (some (10, 0, 7))) (11, 0, 0) 1 (some (9, 0, 7))) (9, 0, 8) 0 (some (10, 0, 8))) (11, 0, 0) 2 (some (9, 0, 8))) (9, 0, 9) 0 (some (10, 0, 9))) (11, 0, 0) 3 (some (9, 0, 9)))) R
  refine pg_43_83 (en_ok (by decide +kernel)) ?_
  refine pg_43_86 ?_
  refine pg_43_87 (lv' := [some (xm_r (7, 0, 0)), some (xm_i (0 : Int32)), some (xm_i (4 : Int32)), some (xm_i (0 : Int32))]) rfl ?_
  refine pg_43_88 rfl ?_
  refine pg_43_89 ?_
  refine pg_43_90 (fun hc => absurd hc (by decide)) (fun _ => ?_)
  refine pg_43_93 rfl ?_
  refine pg_43_94 (en_ok (by decide +kernel)) rfl ?_
  refine pg_43_97 rfl ?_
  refine pg_43_98 (a := (9, 0, 2)) (en_a (by decide +kernel)) (en_k (by decide +kernel)) ?_
  show xm_G (en 4 L) (d + 1) true 43 101 [some (xm_r (7, 0, 0)), some (xm_i (0 : Int32)), some (xm_i (4 : Int32)), some (xm_i (0 : Int32))] [xm_r (9, 0, 2), xm_i (0 : Int32), xm_r (12, 0, 0)] ((22, 97), (xm_up (xm_up (xm_up fi (7, 0, 0) 0 (0 : Int32)) (7, 0, 0) 1 (4 : Int32)) (8, 0, 0) 2 (sp_1 (4 : Int32))), fl, (xm_up (xm_up (xm_up (xm_up (xm_up (xm_up (xm_up (xm_up (xm_up (xm_up (xm_up (xm_up (xm_up r (7, 0, 0) 4 (some (8, 0, 0))) (9, 0, 0) 0 (some (10, 0, 0))) (7, 0, 0) 5 (some (9, 0, 0))) (7, 0, 0) 6 (some (11, 0, 0))) (9, 0, 6) 0 (some (10, 0, 6))) (11, 0, 0) 0 (some (9, 0, 6))) (9, 0, 7) 0 (some (10, 0, 7))) (11, 0, 0) 1 (some (9, 0, 7))) (9, 0, 8) 0 (some (10, 0, 8))) (11, 0, 0) 2 (some (9, 0, 8))) (9, 0, 9) 0 (some (10, 0, 9))) (11, 0, 0) 3 (some (9, 0, 9))) (7, 0, 0) 7 (some (12, 0, 0)))) R
  refine pg_43_101 rfl ?_
  refine pg_43_102 rfl ?_
  refine pg_43_103 (Nat.le_of_ble_eq_true rfl) (ct_61 (m := 4) (b := (10, 0, 2)) (rfl : (4 : Int32) = nI 4) (by decide) (en_a (by decide +kernel)) (en_k (by decide +kernel)) (en_ok (by decide +kernel))) ?_
  show xm_G (en 4 L) (d + 1) true 43 106 [some (xm_r (7, 0, 0)), some (xm_i (0 : Int32)), some (xm_i (4 : Int32)), some (xm_i (0 : Int32))] [xm_r (9, 0, 2), xm_i (0 : Int32), xm_r (12, 0, 0)] ((23, 101), (xm_up (xm_up (xm_up fi (7, 0, 0) 0 (0 : Int32)) (7, 0, 0) 1 (4 : Int32)) (8, 0, 0) 2 (sp_1 (4 : Int32))), fl, (xm_up (xm_up (xm_up (xm_up (xm_up (xm_up (xm_up (xm_up (xm_up (xm_up (xm_up (xm_up (xm_up (xm_up r (7, 0, 0) 4 (some (8, 0, 0))) (9, 0, 0) 0 (some (10, 0, 0))) (7, 0, 0) 5 (some (9, 0, 0))) (7, 0, 0) 6 (some (11, 0, 0))) (9, 0, 6) 0 (some (10, 0, 6))) (11, 0, 0) 0 (some (9, 0, 6))) (9, 0, 7) 0 (some (10, 0, 7))) (11, 0, 0) 1 (some (9, 0, 7))) (9, 0, 8) 0 (some (10, 0, 8))) (11, 0, 0) 2 (some (9, 0, 8))) (9, 0, 9) 0 (some (10, 0, 9))) (11, 0, 0) 3 (some (9, 0, 9))) (7, 0, 0) 7 (some (12, 0, 0))) (9, 0, 2) 0 (some (10, 0, 2)))) R
  refine pg_43_106 (en_ok (t := 4) (s := 0) (by decide +kernel)) (by decide) (by decide) (en_ok (s := 4) (by decide +kernel)) (i := 0) (rfl : (0 : Int32) = nI 0) (by decide) (by decide) ?_
  refine pg_43_107 (y := (1 : Int32)) (lv' := [some (xm_r (7, 0, 0)), some (xm_i (0 : Int32)), some (xm_i (4 : Int32)), some (xm_i (1 : Int32))]) rfl (by decide) rfl ?_
  refine pg_43_110 ?_
  refine pg_43_88 rfl ?_
  refine pg_43_89 ?_
  refine pg_43_90 (fun hc => absurd hc (by decide)) (fun _ => ?_)
  refine pg_43_93 rfl ?_
  refine pg_43_94 (en_ok (by decide +kernel)) rfl ?_
  refine pg_43_97 rfl ?_
  refine pg_43_98 (a := (9, 0, 3)) (en_a (by decide +kernel)) (en_k (by decide +kernel)) ?_
  show xm_G (en 4 L) (d + 1) true 43 101 [some (xm_r (7, 0, 0)), some (xm_i (0 : Int32)), some (xm_i (4 : Int32)), some (xm_i (1 : Int32))] [xm_r (9, 0, 3), xm_i (1 : Int32), xm_r (12, 0, 0)] ((24, 103), (xm_up (xm_up (xm_up fi (7, 0, 0) 0 (0 : Int32)) (7, 0, 0) 1 (4 : Int32)) (8, 0, 0) 2 (sp_1 (4 : Int32))), fl, (xm_up (xm_up (xm_up (xm_up (xm_up (xm_up (xm_up (xm_up (xm_up (xm_up (xm_up (xm_up (xm_up (xm_up (xm_up r (7, 0, 0) 4 (some (8, 0, 0))) (9, 0, 0) 0 (some (10, 0, 0))) (7, 0, 0) 5 (some (9, 0, 0))) (7, 0, 0) 6 (some (11, 0, 0))) (9, 0, 6) 0 (some (10, 0, 6))) (11, 0, 0) 0 (some (9, 0, 6))) (9, 0, 7) 0 (some (10, 0, 7))) (11, 0, 0) 1 (some (9, 0, 7))) (9, 0, 8) 0 (some (10, 0, 8))) (11, 0, 0) 2 (some (9, 0, 8))) (9, 0, 9) 0 (some (10, 0, 9))) (11, 0, 0) 3 (some (9, 0, 9))) (7, 0, 0) 7 (some (12, 0, 0))) (9, 0, 2) 0 (some (10, 0, 2))) (12, 0, 0) 0 (some (9, 0, 2)))) R
  refine pg_43_101 rfl ?_
  refine pg_43_102 rfl ?_
  refine pg_43_103 (Nat.le_of_ble_eq_true rfl) (ct_61 (m := 4) (b := (10, 0, 3)) (rfl : (4 : Int32) = nI 4) (by decide) (en_a (by decide +kernel)) (en_k (by decide +kernel)) (en_ok (by decide +kernel))) ?_
  show xm_G (en 4 L) (d + 1) true 43 106 [some (xm_r (7, 0, 0)), some (xm_i (0 : Int32)), some (xm_i (4 : Int32)), some (xm_i (1 : Int32))] [xm_r (9, 0, 3), xm_i (1 : Int32), xm_r (12, 0, 0)] ((25, 107), (xm_up (xm_up (xm_up fi (7, 0, 0) 0 (0 : Int32)) (7, 0, 0) 1 (4 : Int32)) (8, 0, 0) 2 (sp_1 (4 : Int32))), fl, (xm_up (xm_up (xm_up (xm_up (xm_up (xm_up (xm_up (xm_up (xm_up (xm_up (xm_up (xm_up (xm_up (xm_up (xm_up (xm_up r (7, 0, 0) 4 (some (8, 0, 0))) (9, 0, 0) 0 (some (10, 0, 0))) (7, 0, 0) 5 (some (9, 0, 0))) (7, 0, 0) 6 (some (11, 0, 0))) (9, 0, 6) 0 (some (10, 0, 6))) (11, 0, 0) 0 (some (9, 0, 6))) (9, 0, 7) 0 (some (10, 0, 7))) (11, 0, 0) 1 (some (9, 0, 7))) (9, 0, 8) 0 (some (10, 0, 8))) (11, 0, 0) 2 (some (9, 0, 8))) (9, 0, 9) 0 (some (10, 0, 9))) (11, 0, 0) 3 (some (9, 0, 9))) (7, 0, 0) 7 (some (12, 0, 0))) (9, 0, 2) 0 (some (10, 0, 2))) (12, 0, 0) 0 (some (9, 0, 2))) (9, 0, 3) 0 (some (10, 0, 3)))) R
  refine pg_43_106 (en_ok (t := 4) (s := 0) (by decide +kernel)) (by decide) (by decide) (en_ok (s := 4) (by decide +kernel)) (i := 1) (rfl : (1 : Int32) = nI 1) (by decide) (by decide) ?_
  refine pg_43_107 (y := (2 : Int32)) (lv' := [some (xm_r (7, 0, 0)), some (xm_i (0 : Int32)), some (xm_i (4 : Int32)), some (xm_i (2 : Int32))]) rfl (by decide) rfl ?_
  refine pg_43_110 ?_
  refine pg_43_88 rfl ?_
  refine pg_43_89 ?_
  refine pg_43_90 (fun hc => absurd hc (by decide)) (fun _ => ?_)
  refine pg_43_93 rfl ?_
  refine pg_43_94 (en_ok (by decide +kernel)) rfl ?_
  refine pg_43_97 rfl ?_
  refine pg_43_98 (a := (9, 0, 4)) (en_a (by decide +kernel)) (en_k (by decide +kernel)) ?_
  show xm_G (en 4 L) (d + 1) true 43 101 [some (xm_r (7, 0, 0)), some (xm_i (0 : Int32)), some (xm_i (4 : Int32)), some (xm_i (2 : Int32))] [xm_r (9, 0, 4), xm_i (2 : Int32), xm_r (12, 0, 0)] ((26, 109), (xm_up (xm_up (xm_up fi (7, 0, 0) 0 (0 : Int32)) (7, 0, 0) 1 (4 : Int32)) (8, 0, 0) 2 (sp_1 (4 : Int32))), fl, (xm_up (xm_up (xm_up (xm_up (xm_up (xm_up (xm_up (xm_up (xm_up (xm_up (xm_up (xm_up (xm_up (xm_up (xm_up (xm_up (xm_up r (7, 0, 0) 4 (some (8, 0, 0))) (9, 0, 0) 0 (some (10, 0, 0))) (7, 0, 0) 5 (some (9, 0, 0))) (7, 0, 0) 6 (some (11, 0, 0))) (9, 0, 6) 0 (some (10, 0, 6))) (11, 0, 0) 0 (some (9, 0, 6))) (9, 0, 7) 0 (some (10, 0, 7))) (11, 0, 0) 1 (some (9, 0, 7))) (9, 0, 8) 0 (some (10, 0, 8))) (11, 0, 0) 2 (some (9, 0, 8))) (9, 0, 9) 0 (some (10, 0, 9))) (11, 0, 0) 3 (some (9, 0, 9))) (7, 0, 0) 7 (some (12, 0, 0))) (9, 0, 2) 0 (some (10, 0, 2))) (12, 0, 0) 0 (some (9, 0, 2))) (9, 0, 3) 0 (some (10, 0, 3))) (12, 0, 0) 1 (some (9, 0, 3)))) R
  refine pg_43_101 rfl ?_
  refine pg_43_102 rfl ?_
  refine pg_43_103 (Nat.le_of_ble_eq_true rfl) (ct_61 (m := 4) (b := (10, 0, 4)) (rfl : (4 : Int32) = nI 4) (by decide) (en_a (by decide +kernel)) (en_k (by decide +kernel)) (en_ok (by decide +kernel))) ?_
  show xm_G (en 4 L) (d + 1) true 43 106 [some (xm_r (7, 0, 0)), some (xm_i (0 : Int32)), some (xm_i (4 : Int32)), some (xm_i (2 : Int32))] [xm_r (9, 0, 4), xm_i (2 : Int32), xm_r (12, 0, 0)] ((27, 113), (xm_up (xm_up (xm_up fi (7, 0, 0) 0 (0 : Int32)) (7, 0, 0) 1 (4 : Int32)) (8, 0, 0) 2 (sp_1 (4 : Int32))), fl, (xm_up (xm_up (xm_up (xm_up (xm_up (xm_up (xm_up (xm_up (xm_up (xm_up (xm_up (xm_up (xm_up (xm_up (xm_up (xm_up (xm_up (xm_up r (7, 0, 0) 4 (some (8, 0, 0))) (9, 0, 0) 0 (some (10, 0, 0))) (7, 0, 0) 5 (some (9, 0, 0))) (7, 0, 0) 6 (some (11, 0, 0))) (9, 0, 6) 0 (some (10, 0, 6))) (11, 0, 0) 0 (some (9, 0, 6))) (9, 0, 7) 0 (some (10, 0, 7))) (11, 0, 0) 1 (some (9, 0, 7))) (9, 0, 8) 0 (some (10, 0, 8))) (11, 0, 0) 2 (some (9, 0, 8))) (9, 0, 9) 0 (some (10, 0, 9))) (11, 0, 0) 3 (some (9, 0, 9))) (7, 0, 0) 7 (some (12, 0, 0))) (9, 0, 2) 0 (some (10, 0, 2))) (12, 0, 0) 0 (some (9, 0, 2))) (9, 0, 3) 0 (some (10, 0, 3))) (12, 0, 0) 1 (some (9, 0, 3))) (9, 0, 4) 0 (some (10, 0, 4)))) R
  refine pg_43_106 (en_ok (t := 4) (s := 0) (by decide +kernel)) (by decide) (by decide) (en_ok (s := 4) (by decide +kernel)) (i := 2) (rfl : (2 : Int32) = nI 2) (by decide) (by decide) ?_
  refine pg_43_107 (y := (3 : Int32)) (lv' := [some (xm_r (7, 0, 0)), some (xm_i (0 : Int32)), some (xm_i (4 : Int32)), some (xm_i (3 : Int32))]) rfl (by decide) rfl ?_
  refine pg_43_110 ?_
  refine pg_43_88 rfl ?_
  refine pg_43_89 ?_
  refine pg_43_90 (fun hc => absurd hc (by decide)) (fun _ => ?_)
  refine pg_43_93 rfl ?_
  refine pg_43_94 (en_ok (by decide +kernel)) rfl ?_
  refine pg_43_97 rfl ?_
  refine pg_43_98 (a := (9, 0, 5)) (en_a (by decide +kernel)) (en_k (by decide +kernel)) ?_
  show xm_G (en 4 L) (d + 1) true 43 101 [some (xm_r (7, 0, 0)), some (xm_i (0 : Int32)), some (xm_i (4 : Int32)), some (xm_i (3 : Int32))] [xm_r (9, 0, 5), xm_i (3 : Int32), xm_r (12, 0, 0)] ((28, 115), (xm_up (xm_up (xm_up fi (7, 0, 0) 0 (0 : Int32)) (7, 0, 0) 1 (4 : Int32)) (8, 0, 0) 2 (sp_1 (4 : Int32))), fl, (xm_up (xm_up (xm_up (xm_up (xm_up (xm_up (xm_up (xm_up (xm_up (xm_up (xm_up (xm_up (xm_up (xm_up (xm_up (xm_up (xm_up (xm_up (xm_up r (7, 0, 0) 4 (some (8, 0, 0))) (9, 0, 0) 0 (some (10, 0, 0))) (7, 0, 0) 5 (some (9, 0, 0))) (7, 0, 0) 6 (some (11, 0, 0))) (9, 0, 6) 0 (some (10, 0, 6))) (11, 0, 0) 0 (some (9, 0, 6))) (9, 0, 7) 0 (some (10, 0, 7))) (11, 0, 0) 1 (some (9, 0, 7))) (9, 0, 8) 0 (some (10, 0, 8))) (11, 0, 0) 2 (some (9, 0, 8))) (9, 0, 9) 0 (some (10, 0, 9))) (11, 0, 0) 3 (some (9, 0, 9))) (7, 0, 0) 7 (some (12, 0, 0))) (9, 0, 2) 0 (some (10, 0, 2))) (12, 0, 0) 0 (some (9, 0, 2))) (9, 0, 3) 0 (some (10, 0, 3))) (12, 0, 0) 1 (some (9, 0, 3))) (9, 0, 4) 0 (some (10, 0, 4))) (12, 0, 0) 2 (some (9, 0, 4)))) R
  refine pg_43_101 rfl ?_
  refine pg_43_102 rfl ?_
  refine pg_43_103 (Nat.le_of_ble_eq_true rfl) (ct_61 (m := 4) (b := (10, 0, 5)) (rfl : (4 : Int32) = nI 4) (by decide) (en_a (by decide +kernel)) (en_k (by decide +kernel)) (en_ok (by decide +kernel))) ?_
  show xm_G (en 4 L) (d + 1) true 43 106 [some (xm_r (7, 0, 0)), some (xm_i (0 : Int32)), some (xm_i (4 : Int32)), some (xm_i (3 : Int32))] [xm_r (9, 0, 5), xm_i (3 : Int32), xm_r (12, 0, 0)] ((29, 119), (xm_up (xm_up (xm_up fi (7, 0, 0) 0 (0 : Int32)) (7, 0, 0) 1 (4 : Int32)) (8, 0, 0) 2 (sp_1 (4 : Int32))), fl, (xm_up (xm_up (xm_up (xm_up (xm_up (xm_up (xm_up (xm_up (xm_up (xm_up (xm_up (xm_up (xm_up (xm_up (xm_up (xm_up (xm_up (xm_up (xm_up (xm_up r (7, 0, 0) 4 (some (8, 0, 0))) (9, 0, 0) 0 (some (10, 0, 0))) (7, 0, 0) 5 (some (9, 0, 0))) (7, 0, 0) 6 (some (11, 0, 0))) (9, 0, 6) 0 (some (10, 0, 6))) (11, 0, 0) 0 (some (9, 0, 6))) (9, 0, 7) 0 (some (10, 0, 7))) (11, 0, 0) 1 (some (9, 0, 7))) (9, 0, 8) 0 (some (10, 0, 8))) (11, 0, 0) 2 (some (9, 0, 8))) (9, 0, 9) 0 (some (10, 0, 9))) (11, 0, 0) 3 (some (9, 0, 9))) (7, 0, 0) 7 (some (12, 0, 0))) (9, 0, 2) 0 (some (10, 0, 2))) (12, 0, 0) 0 (some (9, 0, 2))) (9, 0, 3) 0 (some (10, 0, 3))) (12, 0, 0) 1 (some (9, 0, 3))) (9, 0, 4) 0 (some (10, 0, 4))) (12, 0, 0) 2 (some (9, 0, 4))) (9, 0, 5) 0 (some (10, 0, 5)))) R
  refine pg_43_106 (en_ok (t := 4) (s := 0) (by decide +kernel)) (by decide) (by decide) (en_ok (s := 4) (by decide +kernel)) (i := 3) (rfl : (3 : Int32) = nI 3) (by decide) (by decide) ?_
  refine pg_43_107 (y := (4 : Int32)) (lv' := [some (xm_r (7, 0, 0)), some (xm_i (0 : Int32)), some (xm_i (4 : Int32)), some (xm_i (4 : Int32))]) rfl (by decide) rfl ?_
  refine pg_43_110 ?_
  refine pg_43_88 rfl ?_
  refine pg_43_89 ?_
  refine pg_43_90 (fun _ => ?_) (fun hc => absurd (by decide) hc)
  refine pg_43_113 rfl ?_
  refine pg_43_114 (a := (9, 0, 1)) (en_a (by decide +kernel)) (en_k (by decide +kernel)) ?_
  show xm_G (en 4 L) (d + 1) true 43 117 [some (xm_r (7, 0, 0)), some (xm_i (0 : Int32)), some (xm_i (4 : Int32)), some (xm_i (4 : Int32))] [xm_r (9, 0, 1), xm_r (7, 0, 0)] ((30, 121), (xm_up (xm_up (xm_up fi (7, 0, 0) 0 (0 : Int32)) (7, 0, 0) 1 (4 : Int32)) (8, 0, 0) 2 (sp_1 (4 : Int32))), fl, (xm_up (xm_up (xm_up (xm_up (xm_up (xm_up (xm_up (xm_up (xm_up (xm_up (xm_up (xm_up (xm_up (xm_up (xm_up (xm_up (xm_up (xm_up (xm_up (xm_up (xm_up r (7, 0, 0) 4 (some (8, 0, 0))) (9, 0, 0) 0 (some (10, 0, 0))) (7, 0, 0) 5 (some (9, 0, 0))) (7, 0, 0) 6 (some (11, 0, 0))) (9, 0, 6) 0 (some (10, 0, 6))) (11, 0, 0) 0 (some (9, 0, 6))) (9, 0, 7) 0 (some (10, 0, 7))) (11, 0, 0) 1 (some (9, 0, 7))) (9, 0, 8) 0 (some (10, 0, 8))) (11, 0, 0) 2 (some (9, 0, 8))) (9, 0, 9) 0 (some (10, 0, 9))) (11, 0, 0) 3 (some (9, 0, 9))) (7, 0, 0) 7 (some (12, 0, 0))) (9, 0, 2) 0 (some (10, 0, 2))) (12, 0, 0) 0 (some (9, 0, 2))) (9, 0, 3) 0 (some (10, 0, 3))) (12, 0, 0) 1 (some (9, 0, 3))) (9, 0, 4) 0 (some (10, 0, 4))) (12, 0, 0) 2 (some (9, 0, 4))) (9, 0, 5) 0 (some (10, 0, 5))) (12, 0, 0) 3 (some (9, 0, 5)))) R
  refine pg_43_117 rfl ?_
  refine pg_43_118 rfl ?_
  refine pg_43_119 (Nat.le_of_ble_eq_true rfl) (ct_61 (m := 4) (b := (10, 0, 1)) (rfl : (4 : Int32) = nI 4) (by decide) (en_a (by decide +kernel)) (en_k (by decide +kernel)) (en_ok (by decide +kernel))) ?_
  show xm_G (en 4 L) (d + 1) true 43 122 [some (xm_r (7, 0, 0)), some (xm_i (0 : Int32)), some (xm_i (4 : Int32)), some (xm_i (4 : Int32))] [xm_r (9, 0, 1), xm_r (7, 0, 0)] ((31, 125), (xm_up (xm_up (xm_up fi (7, 0, 0) 0 (0 : Int32)) (7, 0, 0) 1 (4 : Int32)) (8, 0, 0) 2 (sp_1 (4 : Int32))), fl, (xm_up (xm_up (xm_up (xm_up (xm_up (xm_up (xm_up (xm_up (xm_up (xm_up (xm_up (xm_up (xm_up (xm_up (xm_up (xm_up (xm_up (xm_up (xm_up (xm_up (xm_up (xm_up r (7, 0, 0) 4 (some (8, 0, 0))) (9, 0, 0) 0 (some (10, 0, 0))) (7, 0, 0) 5 (some (9, 0, 0))) (7, 0, 0) 6 (some (11, 0, 0))) (9, 0, 6) 0 (some (10, 0, 6))) (11, 0, 0) 0 (some (9, 0, 6))) (9, 0, 7) 0 (some (10, 0, 7))) (11, 0, 0) 1 (some (9, 0, 7))) (9, 0, 8) 0 (some (10, 0, 8))) (11, 0, 0) 2 (some (9, 0, 8))) (9, 0, 9) 0 (some (10, 0, 9))) (11, 0, 0) 3 (some (9, 0, 9))) (7, 0, 0) 7 (some (12, 0, 0))) (9, 0, 2) 0 (some (10, 0, 2))) (12, 0, 0) 0 (some (9, 0, 2))) (9, 0, 3) 0 (some (10, 0, 3))) (12, 0, 0) 1 (some (9, 0, 3))) (9, 0, 4) 0 (some (10, 0, 4))) (12, 0, 0) 2 (some (9, 0, 4))) (9, 0, 5) 0 (some (10, 0, 5))) (12, 0, 0) 3 (some (9, 0, 5))) (9, 0, 1) 0 (some (10, 0, 1)))) R
  refine pg_43_122 (en_ok (by decide +kernel)) ?_
  refine pg_43_125 rfl ?_
  refine pg_43_126 rfl ?_
  refine pg_43_127 (n := 4) (rfl : (4 : Int32) = nI 4) (by decide) (en_a (a := (13, 0, 0)) (by decide +kernel)) (en_k (by decide +kernel)) ?_
  show xm_G (en 4 L) (d + 1) true 43 129 [some (xm_r (7, 0, 0)), some (xm_i (0 : Int32)), some (xm_i (4 : Int32)), some (xm_i (4 : Int32))] [xm_r (13, 0, 0), xm_r (7, 0, 0)] ((32, 129), (xm_up (xm_up (xm_up fi (7, 0, 0) 0 (0 : Int32)) (7, 0, 0) 1 (4 : Int32)) (8, 0, 0) 2 (sp_1 (4 : Int32))), fl, (xm_up (xm_up (xm_up (xm_up (xm_up (xm_up (xm_up (xm_up (xm_up (xm_up (xm_up (xm_up (xm_up (xm_up (xm_up (xm_up (xm_up (xm_up (xm_up (xm_up (xm_up (xm_up (xm_up r (7, 0, 0) 4 (some (8, 0, 0))) (9, 0, 0) 0 (some (10, 0, 0))) (7, 0, 0) 5 (some (9, 0, 0))) (7, 0, 0) 6 (some (11, 0, 0))) (9, 0, 6) 0 (some (10, 0, 6))) (11, 0, 0) 0 (some (9, 0, 6))) (9, 0, 7) 0 (some (10, 0, 7))) (11, 0, 0) 1 (some (9, 0, 7))) (9, 0, 8) 0 (some (10, 0, 8))) (11, 0, 0) 2 (some (9, 0, 8))) (9, 0, 9) 0 (some (10, 0, 9))) (11, 0, 0) 3 (some (9, 0, 9))) (7, 0, 0) 7 (some (12, 0, 0))) (9, 0, 2) 0 (some (10, 0, 2))) (12, 0, 0) 0 (some (9, 0, 2))) (9, 0, 3) 0 (some (10, 0, 3))) (12, 0, 0) 1 (some (9, 0, 3))) (9, 0, 4) 0 (some (10, 0, 4))) (12, 0, 0) 2 (some (9, 0, 4))) (9, 0, 5) 0 (some (10, 0, 5))) (12, 0, 0) 3 (some (9, 0, 5))) (9, 0, 1) 0 (some (10, 0, 1))) (7, 0, 0) 8 (some (9, 0, 1)))) R
  refine pg_43_129 (en_ok (by decide +kernel)) ?_
  exact go_eq hR.symm (pg_43_132)
def cf_43_4_1 (fi : FI) : FI := (xm_up (xm_up (xm_up fi (7, 1, 0) 0 (1 : Int32)) (7, 1, 0) 1 (4 : Int32)) (8, 1, 0) 2 (sp_1 (4 : Int32)))
def cr_43_4_1 (r : xm_I → Nat → Option xm_I) : xm_I → Nat → Option xm_I := (xm_up (xm_up (xm_up (xm_up (xm_up (xm_up (xm_up (xm_up (xm_up (xm_up (xm_up (xm_up (xm_up (xm_up (xm_up (xm_up (xm_up (xm_up (xm_up (xm_up (xm_up (xm_up (xm_up (xm_up r (7, 1, 0) 4 (some (8, 1, 0))) (9, 1, 0) 0 (some (10, 1, 0))) (7, 1, 0) 5 (some (9, 1, 0))) (7, 1, 0) 6 (some (11, 1, 0))) (9, 1, 6) 0 (some (10, 1, 6))) (11, 1, 0) 0 (some (9, 1, 6))) (9, 1, 7) 0 (some (10, 1, 7))) (11, 1, 0) 1 (some (9, 1, 7))) (9, 1, 8) 0 (some (10, 1, 8))) (11, 1, 0) 2 (some (9, 1, 8))) (9, 1, 9) 0 (some (10, 1, 9))) (11, 1, 0) 3 (some (9, 1, 9))) (7, 1, 0) 7 (some (12, 1, 0))) (9, 1, 2) 0 (some (10, 1, 2))) (12, 1, 0) 0 (some (9, 1, 2))) (9, 1, 3) 0 (some (10, 1, 3))) (12, 1, 0) 1 (some (9, 1, 3))) (9, 1, 4) 0 (some (10, 1, 4))) (12, 1, 0) 2 (some (9, 1, 4))) (9, 1, 5) 0 (some (10, 1, 5))) (12, 1, 0) 3 (some (9, 1, 5))) (9, 1, 1) 0 (some (10, 1, 1))) (7, 1, 0) 8 (some (9, 1, 1))) (7, 1, 0) 9 (some (13, 1, 0)))
set_option maxRecDepth 8000 in
theorem ct_43_4_1 {L : Nat} {fi : FI} {fl : FL} {r : xm_I → Nat → Option xm_I} {d : Nat} : xm_C (en 4 L) (d + 2) true 43 [xm_r (7, 1, 0), xm_i (1 : Int32), xm_i (4 : Int32)] ((33, 142), fi, fl, r) (.inl none, ((57, 218), cf_43_4_1 fi, fl, cr_43_4_1 r)) := by
  suffices key : ∀ (E : xm_E) (R : xm_O), E = en 4 L → ((.inl none, ((57, 218), cf_43_4_1 fi, fl, cr_43_4_1 r)) : xm_O) = R → xm_G (en 4 L) (d + 1) true 43 0 [some (xm_r (7, 1, 0)), some (xm_i (1 : Int32)), some (xm_i (4 : Int32)), none] [] ((33, 142), fi, fl, r) R from go_inr (by decide) (Nat.le_of_ble_eq_true rfl) (key _ _ rfl rfl)
  intro E R hE hR
  refine pg_43_0 rfl ?_
  refine pg_43_1 (Nat.le_of_ble_eq_true rfl) ?_
  refine pg_43_4 rfl ?_
  refine pg_43_5 rfl ?_
  refine pg_43_6 (en_ok (by decide +kernel)) ?_
  refine pg_43_9 rfl ?_
  refine pg_43_10 rfl ?_
  refine pg_43_11 (en_ok (by decide +kernel)) ?_
  refine pg_43_14 rfl ?_
  refine pg_43_15 ?_
  refine pg_43_16 (n := 4) (rfl : (4 : Int32) = nI 4) (by decide) (en_a (a := (8, 1, 0)) (by decide +kernel)) (en_k (by decide +kernel)) ?_
  show xm_G (en 4 L) (d + 1) true 43 18 [some (xm_r (7, 1, 0)), some (xm_i (1 : Int32)), some (xm_i (4 : Int32)), none] [xm_r (8, 1, 0), xm_r (7, 1, 0)] ((34, 146), (xm_up (xm_up fi (7, 1, 0) 0 (1 : Int32)) (7, 1, 0) 1 (4 : Int32)), fl, r) R
  refine pg_43_18 (en_ok (by decide +kernel)) ?_
  refine pg_43_21 rfl ?_
  refine pg_43_22 (en_ok (by decide +kernel)) rfl ?_
  refine pg_43_25 ?_
  refine pg_43_26 rfl ?_
  refine pg_43_27 (Nat.le_of_ble_eq_true rfl) (ct_1 (x := (4 : Int32))) ?_
  refine pg_43_30 (en_ok (s := 4) (by decide +kernel)) (i := 2) (rfl : (2 : Int32) = nI 2) (by omega) (by omega) ?_
  refine pg_43_31 rfl ?_
  refine pg_43_32 (a := (9, 1, 0)) (en_a (by decide +kernel)) (en_k (by decide +kernel)) ?_
  show xm_G (en 4 L) (d + 1) true 43 35 [some (xm_r (7, 1, 0)), some (xm_i (1 : Int32)), some (xm_i (4 : Int32)), none] [xm_r (9, 1, 0), xm_r (7, 1, 0)] ((35, 148), (xm_up (xm_up (xm_up fi (7, 1, 0) 0 (1 : Int32)) (7, 1, 0) 1 (4 : Int32)) (8, 1, 0) 2 (sp_1 (4 : Int32))), fl, (xm_up r (7, 1, 0) 4 (some (8, 1, 0)))) R
  refine pg_43_35 rfl ?_
  refine pg_43_36 rfl ?_
  refine pg_43_37 (Nat.le_of_ble_eq_true rfl) (ct_61 (m := 4) (b := (10, 1, 0)) (rfl : (4 : Int32) = nI 4) (by decide) (en_a (by decide +kernel)) (en_k (by decide +kernel)) (en_ok (by decide +kernel))) ?_
  show xm_G (en 4 L) (d + 1) true 43 40 [some (xm_r (7, 1, 0)), some (xm_i (1 : Int32)), some (xm_i (4 : Int32)), none] [xm_r (9, 1, 0), xm_r (7, 1, 0)] ((36, 152), (xm_up (xm_up (xm_up fi (7, 1, 0) 0 (1 : Int32)) (7, 1, 0) 1 (4 : Int32)) (8, 1, 0) 2 (sp_1 (4 : Int32))), fl, (xm_up (xm_up r (7, 1, 0) 4 (some (8, 1, 0))) (9, 1, 0) 0 (some (10, 1, 0)))) R
  refine pg_43_40 (en_ok (by decide +kernel)) ?_
  refine pg_43_43 rfl ?_
  refine pg_43_44 rfl ?_
  refine pg_43_45 (n := 4) (rfl : (4 : Int32) = nI 4) (by decide) (en_a (a := (11, 1, 0)) (by decide +kernel)) (en_k (by decide +kernel)) ?_
  show xm_G (en 4 L) (d + 1) true 43 48 [some (xm_r (7, 1, 0)), some (xm_i (1 : Int32)), some (xm_i (4 : Int32)), none] [xm_r (11, 1, 0), xm_r (7, 1, 0)] ((37, 156), (xm_up (xm_up (xm_up fi (7, 1, 0) 0 (1 : Int32)) (7, 1, 0) 1 (4 : Int32)) (8, 1, 0) 2 (sp_1 (4 : Int32))), fl, (xm_up (xm_up (xm_up r (7, 1, 0) 4 (some (8, 1, 0))) (9, 1, 0) 0 (some (10, 1, 0))) (7, 1, 0) 5 (some (9, 1, 0)))) R
  refine pg_43_48 (en_ok (by decide +kernel)) ?_
  refine pg_43_51 ?_
  refine pg_43_52 (lv' := [some (xm_r (7, 1, 0)), some (xm_i (1 : Int32)), some (xm_i (4 : Int32)), some (xm_i (0 : Int32))]) rfl ?_
  refine pg_43_53 rfl ?_
  refine pg_43_54 rfl ?_
  refine pg_43_55 (fun hc => absurd hc (by decide)) (fun _ => ?_)
  refine pg_43_58 rfl ?_
  refine pg_43_59 (en_ok (by decide +kernel)) rfl ?_
  refine pg_43_62 rfl ?_
  refine pg_43_63 (a := (9, 1, 6)) (en_a (by decide +kernel)) (en_k (by decide +kernel)) ?_
  show xm_G (en 4 L) (d + 1) true 43 66 [some (xm_r (7, 1, 0)), some (xm_i (1 : Int32)), some (xm_i (4 : Int32)), some (xm_i (0 : Int32))] [xm_r (9, 1, 6), xm_i (0 : Int32), xm_r (11, 1, 0)] ((38, 158), (xm_up (xm_up (xm_up fi (7, 1, 0) 0 (1 : Int32)) (7, 1, 0) 1 (4 : Int32)) (8, 1, 0) 2 (sp_1 (4 : Int32))), fl, (xm_up (xm_up (xm_up (xm_up r (7, 1, 0) 4 (some (8, 1, 0))) (9, 1, 0) 0 (some (10, 1, 0))) (7, 1, 0) 5 (some (9, 1, 0))) (7, 1, 0) 6 (some (11, 1, 0)))) R
  refine pg_43_66 rfl ?_
  refine pg_43_67 rfl ?_
  refine pg_43_68 (Nat.le_of_ble_eq_true rfl) (ct_61 (m := 4) (b := (10, 1, 6)) (rfl : (4 : Int32) = nI 4) (by decide) (en_a (by decide +kernel)) (en_k (by decide +kernel)) (en_ok (by decide +kernel))) ?_
  show xm_G (en 4 L) (d + 1) true 43 71 [some (xm_r (7, 1, 0)), some (xm_i (1 : Int32)), some (xm_i (4 : Int32)), some (xm_i (0 : Int32))] [xm_r (9, 1, 6), xm_i (0 : Int32), xm_r (11, 1, 0)] ((39, 162), (xm_up (xm_up (xm_up fi (7, 1, 0) 0 (1 : Int32)) (7, 1, 0) 1 (4 : Int32)) (8, 1, 0) 2 (sp_1 (4 : Int32))), fl, (xm_up (xm_up (xm_up (xm_up (xm_up r (7, 1, 0) 4 (some (8, 1, 0))) (9, 1, 0) 0 (some (10, 1, 0))) (7, 1, 0) 5 (some (9, 1, 0))) (7, 1, 0) 6 (some (11, 1, 0))) (9, 1, 6) 0 (some (10, 1, 6)))) R
  refine pg_43_71 (en_ok (t := 4) (s := 0) (by decide +kernel)) (by decide) (by decide) (en_ok (s := 4) (by decide +kernel)) (i := 0) (rfl : (0 : Int32) = nI 0) (by decide) (by decide) ?_
  refine pg_43_72 (y := (1 : Int32)) (lv' := [some (xm_r (7, 1, 0)), some (xm_i (1 : Int32)), some (xm_i (4 : Int32)), some (xm_i (1 : Int32))]) rfl (by decide) rfl ?_
  refine pg_43_75 ?_
  refine pg_43_53 rfl ?_
  refine pg_43_54 rfl ?_
  refine pg_43_55 (fun hc => absurd hc (by decide)) (fun _ => ?_)
  refine pg_43_58 rfl ?_
  refine pg_43_59 (en_ok (by decide +kernel)) rfl ?_
  refine pg_43_62 rfl ?_
  refine pg_43_63 (a := (9, 1, 7)) (en_a (by decide +kernel)) (en_k (by decide +kernel)) ?_
  show xm_G (en 4 L) (d + 1) true 43 66 [some (xm_r (7, 1, 0)), some (xm_i (1 : Int32)), some (xm_i (4 : Int32)), some (xm_i (1 : Int32))] [xm_r (9, 1, 7), xm_i (1 : Int32), xm_r (11, 1, 0)] ((40, 164), (xm_up (xm_up (xm_up fi (7, 1, 0) 0 (1 : Int32)) (7, 1, 0) 1 (4 : Int32)) (8, 1, 0) 2 (sp_1 (4 : Int32))), fl, (xm_up (xm_up (xm_up (xm_up (xm_up (xm_up r (7, 1, 0) 4 (some (8, 1, 0))) (9, 1, 0) 0 (some (10, 1, 0))) (7, 1, 0) 5 (some (9, 1, 0))) (7, 1, 0) 6 (some (11, 1, 0))) (9, 1, 6) 0 (some (10, 1, 6))) (11, 1, 0) 0 (some (9, 1, 6)))) R
  refine pg_43_66 rfl ?_
  refine pg_43_67 rfl ?_
  refine pg_43_68 (Nat.le_of_ble_eq_true rfl) (ct_61 (m := 4) (b := (10, 1, 7)) (rfl : (4 : Int32) = nI 4) (by decide) (en_a (by decide +kernel)) (en_k (by decide +kernel)) (en_ok (by decide +kernel))) ?_
  show xm_G (en 4 L) (d + 1) true 43 71 [some (xm_r (7, 1, 0)), some (xm_i (1 : Int32)), some (xm_i (4 : Int32)), some (xm_i (1 : Int32))] [xm_r (9, 1, 7), xm_i (1 : Int32), xm_r (11, 1, 0)] ((41, 168), (xm_up (xm_up (xm_up fi (7, 1, 0) 0 (1 : Int32)) (7, 1, 0) 1 (4 : Int32)) (8, 1, 0) 2 (sp_1 (4 : Int32))), fl, (xm_up (xm_up (xm_up (xm_up (xm_up (xm_up (xm_up r (7, 1, 0) 4 (some (8, 1, 0))) (9, 1, 0) 0 (some (10, 1, 0))) (7, 1, 0) 5 (some (9, 1, 0))) (7, 1, 0) 6 (some (11, 1, 0))) (9, 1, 6) 0 (some (10, 1, 6))) (11, 1, 0) 0 (some (9, 1, 6))) (9, 1, 7) 0 (some (10, 1, 7)))) R
  refine pg_43_71 (en_ok (t := 4) (s := 0) (by decide +kernel)) (by decide) (by decide) (en_ok (s := 4) (by decide +kernel)) (i := 1) (rfl : (1 : Int32) = nI 1) (by decide) (by decide) ?_
  refine pg_43_72 (y := (2 : Int32)) (lv' := [some (xm_r (7, 1, 0)), some (xm_i (1 : Int32)), some (xm_i (4 : Int32)), some (xm_i (2 : Int32))]) rfl (by decide) rfl ?_
  refine pg_43_75 ?_
  refine pg_43_53 rfl ?_
  refine pg_43_54 rfl ?_
  refine pg_43_55 (fun hc => absurd hc (by decide)) (fun _ => ?_)
  refine pg_43_58 rfl ?_
  refine pg_43_59 (en_ok (by decide +kernel)) rfl ?_
  refine pg_43_62 rfl ?_
  refine pg_43_63 (a := (9, 1, 8)) (en_a (by decide +kernel)) (en_k (by decide +kernel)) ?_
  show xm_G (en 4 L) (d + 1) true 43 66 [some (xm_r (7, 1, 0)), some (xm_i (1 : Int32)), some (xm_i (4 : Int32)), some (xm_i (2 : Int32))] [xm_r (9, 1, 8), xm_i (2 : Int32), xm_r (11, 1, 0)] ((42, 170), (xm_up (xm_up (xm_up fi (7, 1, 0) 0 (1 : Int32)) (7, 1, 0) 1 (4 : Int32)) (8, 1, 0) 2 (sp_1 (4 : Int32))), fl, (xm_up (xm_up (xm_up (xm_up (xm_up (xm_up (xm_up (xm_up r (7, 1, 0) 4 (some (8, 1, 0))) (9, 1, 0) 0 (some (10, 1, 0))) (7, 1, 0) 5 (some (9, 1, 0))) (7, 1, 0) 6 (some (11, 1, 0))) (9, 1, 6) 0 (some (10, 1, 6))) (11, 1, 0) 0 (some (9, 1, 6))) (9, 1, 7) 0 (some (10, 1, 7))) (11, 1, 0) 1 (some (9, 1, 7)))) R
  refine pg_43_66 rfl ?_
  refine pg_43_67 rfl ?_
  refine pg_43_68 (Nat.le_of_ble_eq_true rfl) (ct_61 (m := 4) (b := (10, 1, 8)) (rfl : (4 : Int32) = nI 4) (by decide) (en_a (by decide +kernel)) (en_k (by decide +kernel)) (en_ok (by decide +kernel))) ?_
  show xm_G (en 4 L) (d + 1) true 43 71 [some (xm_r (7, 1, 0)), some (xm_i (1 : Int32)), some (xm_i (4 : Int32)), some (xm_i (2 : Int32))] [xm_r (9, 1, 8), xm_i (2 : Int32), xm_r (11, 1, 0)] ((43, 174), (xm_up (xm_up (xm_up fi (7, 1, 0) 0 (1 : Int32)) (7, 1, 0) 1 (4 : Int32)) (8, 1, 0) 2 (sp_1 (4 : Int32))), fl, (xm_up (xm_up (xm_up (xm_up (xm_up (xm_up (xm_up (xm_up (xm_up r (7, 1, 0) 4 (some (8, 1, 0))) (9, 1, 0) 0 (some (10, 1, 0))) (7, 1, 0) 5 (some (9, 1, 0))) (7, 1, 0) 6 (some (11, 1, 0))) (9, 1, 6) 0 (some (10, 1, 6))) (11, 1, 0) 0 (some (9, 1, 6))) (9, 1, 7) 0 (some (10, 1, 7))) (11, 1, 0) 1 (some (9, 1, 7))) (9, 1, 8) 0 (some (10, 1, 8)))) R
  refine pg_43_71 (en_ok (t := 4) (s := 0) (by decide +kernel)) (by decide) (by decide) (en_ok (s := 4) (by decide +kernel)) (i := 2) (rfl : (2 : Int32) = nI 2) (by decide) (by decide) ?_
  refine pg_43_72 (y := (3 : Int32)) (lv' := [some (xm_r (7, 1, 0)), some (xm_i (1 : Int32)), some (xm_i (4 : Int32)), some (xm_i (3 : Int32))]) rfl (by decide) rfl ?_
  refine pg_43_75 ?_
  refine pg_43_53 rfl ?_
  refine pg_43_54 rfl ?_
  refine pg_43_55 (fun hc => absurd hc (by decide)) (fun _ => ?_)
  refine pg_43_58 rfl ?_
  refine pg_43_59 (en_ok (by decide +kernel)) rfl ?_
  refine pg_43_62 rfl ?_
  refine pg_43_63 (a := (9, 1, 9)) (en_a (by decide +kernel)) (en_k (by decide +kernel)) ?_
  show xm_G (en 4 L) (d + 1) true 43 66 [some (xm_r (7, 1, 0)), some (xm_i (1 : Int32)), some (xm_i (4 : Int32)), some (xm_i (3 : Int32))] [xm_r (9, 1, 9), xm_i (3 : Int32), xm_r (11, 1, 0)] ((44, 176), (xm_up (xm_up (xm_up fi (7, 1, 0) 0 (1 : Int32)) (7, 1, 0) 1 (4 : Int32)) (8, 1, 0) 2 (sp_1 (4 : Int32))), fl, (xm_up (xm_up (xm_up (xm_up (xm_up (xm_up (xm_up (xm_up (xm_up (xm_up r (7, 1, 0) 4 (some (8, 1, 0))) (9, 1, 0) 0 (some (10, 1, 0))) (7, 1, 0) 5 (some (9, 1, 0))) (7, 1, 0) 6 (some (11, 1, 0))) (9, 1, 6) 0 (some (10, 1, 6))) (11, 1, 0) 0 (some (9, 1, 6))) (9, 1, 7) 0 (some (10, 1, 7))) (11, 1, 0) 1 (some (9, 1, 7))) (9, 1, 8) 0 (some (10, 1, 8))) (11, 1, 0) 2 (some (9, 1, 8)))) R
  refine pg_43_66 rfl ?_
  refine pg_43_67 rfl ?_
  refine pg_43_68 (Nat.le_of_ble_eq_true rfl) (ct_61 (m := 4) (b := (10, 1, 9)) (rfl : (4 : Int32) = nI 4) (by decide) (en_a (by decide +kernel)) (en_k (by decide +kernel)) (en_ok (by decide +kernel))) ?_
  show xm_G (en 4 L) (d + 1) true 43 71 [some (xm_r (7, 1, 0)), some (xm_i (1 : Int32)), some (xm_i (4 : Int32)), some (xm_i (3 : Int32))] [xm_r (9, 1, 9), xm_i (3 : Int32), xm_r (11, 1, 0)] ((45, 180), (xm_up (xm_up (xm_up fi (7, 1, 0) 0 (1 : Int32)) (7, 1, 0) 1 (4 : Int32)) (8, 1, 0) 2 (sp_1 (4 : Int32))), fl, (xm_up (xm_up (xm_up (xm_up (xm_up (xm_up (xm_up (xm_up (xm_up (xm_up (xm_up r (7, 1, 0) 4 (some (8, 1, 0))) (9, 1, 0) 0 (some (10, 1, 0))) (7, 1, 0) 5 (some (9, 1, 0))) (7, 1, 0) 6 (some (11, 1, 0))) (9, 1, 6) 0 (some (10, 1, 6))) (11, 1, 0) 0 (some (9, 1, 6))) (9, 1, 7) 0 (some (10, 1, 7))) (11, 1, 0) 1 (some (9, 1, 7))) (9, 1, 8) 0 (some (10, 1, 8))) (11, 1, 0) 2 (some (9, 1, 8))) (9, 1, 9) 0 (some (10, 1, 9)))) R
  refine pg_43_71 (en_ok (t := 4) (s := 0) (by decide +kernel)) (by decide) (by decide) (en_ok (s := 4) (by decide +kernel)) (i := 3) (rfl : (3 : Int32) = nI 3) (by decide) (by decide) ?_
  refine pg_43_72 (y := (4 : Int32)) (lv' := [some (xm_r (7, 1, 0)), some (xm_i (1 : Int32)), some (xm_i (4 : Int32)), some (xm_i (4 : Int32))]) rfl (by decide) rfl ?_
  refine pg_43_75 ?_
  refine pg_43_53 rfl ?_
  refine pg_43_54 rfl ?_
  refine pg_43_55 (fun _ => ?_) (fun hc => absurd (by decide) hc)
  refine pg_43_78 rfl ?_
  refine pg_43_79 ?_
  refine pg_43_80 (n := 4) (rfl : (4 : Int32) = nI 4) (by decide) (en_a (a := (12, 1, 0)) (by decide +kernel)) (en_k (by decide +kernel)) ?_
  show xm_G (en 4 L) (d + 1) true 43 83 [some (xm_r (7, 1, 0)), some (xm_i (1 : Int32)), some (xm_i (4 : Int32)), some (xm_i (4 : Int32))] [xm_r (12, 1, 0), xm_r (7, 1, 0)] ((46, 184), (xm_up (xm_up (xm_up fi (7, 1, 0) 0 (1 : Int32)) (7, 1, 0) 1 (4 : Int32)) (8, 1, 0) 2 (sp_1 (4 : Int32))), fl, (xm_up (xm_up (xm_up (xm_up (xm_up (xm_up (xm_up (xm_up (xm_up (xm_up (xm_up (xm_up r (7, 1, 0) 4 (some (8, 1, 0))) (9, 1, 0) 0 (some (10, 1, 0))) (7, 1, 0) 5 (some (9, 1, 0))) (7, 1, 0) 6 (some (11, 1, 0))) (9, 1, 6) 0 (some (10, 1, 6))) (11, 1, 0) 0 (some (9, 1, 6))) (9, 1, 7) 0 (some (10, 1, 7))) (11, 1, 0) 1 (some (9, 1, 7))) (9, 1, 8) 0 (some (10, 1, 8))) (11, 1, 0) 2 (some (9, 1, 8))) (9, 1, 9) 0 (some (10, 1, 9))) (11, 1, 0) 3 (some (9, 1, 9)))) R
  refine pg_43_83 (en_ok (by decide +kernel)) ?_
  refine pg_43_86 ?_
  refine pg_43_87 (lv' := [some (xm_r (7, 1, 0)), some (xm_i (1 : Int32)), some (xm_i (4 : Int32)), some (xm_i (0 : Int32))]) rfl ?_
  refine pg_43_88 rfl ?_
  refine pg_43_89 ?_
  refine pg_43_90 (fun hc => absurd hc (by decide)) (fun _ => ?_)
  refine pg_43_93 rfl ?_
  refine pg_43_94 (en_ok (by decide +kernel)) rfl ?_
  refine pg_43_97 rfl ?_
  refine pg_43_98 (a := (9, 1, 2)) (en_a (by decide +kernel)) (en_k (by decide +kernel)) ?_
  show xm_G (en 4 L) (d + 1) true 43 101 [some (xm_r (7, 1, 0)), some (xm_i (1 : Int32)), some (xm_i (4 : Int32)), some (xm_i (0 : Int32))] [xm_r (9, 1, 2), xm_i (0 : Int32), xm_r (12, 1, 0)] ((47, 186), (xm_up (xm_up (xm_up fi (7, 1, 0) 0 (1 : Int32)) (7, 1, 0) 1 (4 : Int32)) (8, 1, 0) 2 (sp_1 (4 : Int32))), fl, (xm_up (xm_up (xm_up (xm_up (xm_up (xm_up (xm_up (xm_up (xm_up (xm_up (xm_up (xm_up (xm_up r (7, 1, 0) 4 (some (8, 1, 0))) (9, 1, 0) 0 (some (10, 1, 0))) (7, 1, 0) 5 (some (9, 1, 0))) (7, 1, 0) 6 (some (11, 1, 0))) (9, 1, 6) 0 (some (10, 1, 6))) (11, 1, 0) 0 (some (9, 1, 6))) (9, 1, 7) 0 (some (10, 1, 7))) (11, 1, 0) 1 (some (9, 1, 7))) (9, 1, 8) 0 (some (10, 1, 8))) (11, 1, 0) 2 (some (9, 1, 8))) (9, 1, 9) 0 (some (10, 1, 9))) (11, 1, 0) 3 (some (9, 1, 9))) (7, 1, 0) 7 (some (12, 1, 0)))) R
  refine pg_43_101 rfl ?_
  refine pg_43_102 rfl ?_
  refine pg_43_103 (Nat.le_of_ble_eq_true rfl) (ct_61 (m := 4) (b := (10, 1, 2)) (rfl : (4 : Int32) = nI 4) (by decide) (en_a (by decide +kernel)) (en_k (by decide +kernel)) (en_ok (by decide +kernel))) ?_
  show xm_G (en 4 L) (d + 1) true 43 106 [some (xm_r (7, 1, 0)), some (xm_i (1 : Int32)), some (xm_i (4 : Int32)), some (xm_i (0 : Int32))] [xm_r (9, 1, 2), xm_i (0 : Int32), xm_r (12, 1, 0)] ((48, 190), (xm_up (xm_up (xm_up fi (7, 1, 0) 0 (1 : Int32)) (7, 1, 0) 1 (4 : Int32)) (8, 1, 0) 2 (sp_1 (4 : Int32))), fl, (xm_up (xm_up (xm_up (xm_up (xm_up (xm_up (xm_up (xm_up (xm_up (xm_up (xm_up (xm_up (xm_up (xm_up r (7, 1, 0) 4 (some (8, 1, 0))) (9, 1, 0) 0 (some (10, 1, 0))) (7, 1, 0) 5 (some (9, 1, 0))) (7, 1, 0) 6 (some (11, 1, 0))) (9, 1, 6) 0 (some (10, 1, 6))) (11, 1, 0) 0 (some (9, 1, 6))) (9, 1, 7) 0 (some (10, 1, 7))) (11, 1, 0) 1 (some (9, 1, 7))) (9, 1, 8) 0 (some (10, 1, 8))) (11, 1, 0) 2 (some (9, 1, 8))) (9, 1, 9) 0 (some (10, 1, 9))) (11, 1, 0) 3 (some (9, 1, 9))) (7, 1, 0) 7 (some (12, 1, 0))) (9, 1, 2) 0 (some (10, 1, 2)))) R
  refine pg_43_106 (en_ok (t := 4) (s := 0) (by decide +kernel)) (by decide) (by decide) (en_ok (s := 4) (by decide +kernel)) (i := 0) (rfl : (0 : Int32) = nI 0) (by decide) (by decide) ?_
  refine pg_43_107 (y := (1 : Int32)) (lv' := [some (xm_r (7, 1, 0)), some (xm_i (1 : Int32)), some (xm_i (4 : Int32)), some (xm_i (1 : Int32))]) rfl (by decide) rfl ?_
  refine pg_43_110 ?_
  refine pg_43_88 rfl ?_
  refine pg_43_89 ?_
  refine pg_43_90 (fun hc => absurd hc (by decide)) (fun _ => ?_)
  refine pg_43_93 rfl ?_
  refine pg_43_94 (en_ok (by decide +kernel)) rfl ?_
  refine pg_43_97 rfl ?_
  refine pg_43_98 (a := (9, 1, 3)) (en_a (by decide +kernel)) (en_k (by decide +kernel)) ?_
  show xm_G (en 4 L) (d + 1) true 43 101 [some (xm_r (7, 1, 0)), some (xm_i (1 : Int32)), some (xm_i (4 : Int32)), some (xm_i (1 : Int32))] [xm_r (9, 1, 3), xm_i (1 : Int32), xm_r (12, 1, 0)] ((49, 192), (xm_up (xm_up (xm_up fi (7, 1, 0) 0 (1 : Int32)) (7, 1, 0) 1 (4 : Int32)) (8, 1, 0) 2 (sp_1 (4 : Int32))), fl, (xm_up (xm_up (xm_up (xm_up (xm_up (xm_up (xm_up (xm_up (xm_up (xm_up (xm_up (xm_up (xm_up (xm_up (xm_up r (7, 1, 0) 4 (some (8, 1, 0))) (9, 1, 0) 0 (some (10, 1, 0))) (7, 1, 0) 5 (some (9, 1, 0))) (7, 1, 0) 6 (some (11, 1, 0))) (9, 1, 6) 0 (some (10, 1, 6))) (11, 1, 0) 0 (some (9, 1, 6))) (9, 1, 7) 0 (some (10, 1, 7))) (11, 1, 0) 1 (some (9, 1, 7))) (9, 1, 8) 0 (some (10, 1, 8))) (11, 1, 0) 2 (some (9, 1, 8))) (9, 1, 9) 0 (some (10, 1, 9))) (11, 1, 0) 3 (some (9, 1, 9))) (7, 1, 0) 7 (some (12, 1, 0))) (9, 1, 2) 0 (some (10, 1, 2))) (12, 1, 0) 0 (some (9, 1, 2)))) R
  refine pg_43_101 rfl ?_
  refine pg_43_102 rfl ?_
  refine pg_43_103 (Nat.le_of_ble_eq_true rfl) (ct_61 (m := 4) (b := (10, 1, 3)) (rfl : (4 : Int32) = nI 4) (by decide) (en_a (by decide +kernel)) (en_k (by decide +kernel)) (en_ok (by decide +kernel))) ?_
  show xm_G (en 4 L) (d + 1) true 43 106 [some (xm_r (7, 1, 0)), some (xm_i (1 : Int32)), some (xm_i (4 : Int32)), some (xm_i (1 : Int32))] [xm_r (9, 1, 3), xm_i (1 : Int32), xm_r (12, 1, 0)] ((50, 196), (xm_up (xm_up (xm_up fi (7, 1, 0) 0 (1 : Int32)) (7, 1, 0) 1 (4 : Int32)) (8, 1, 0) 2 (sp_1 (4 : Int32))), fl, (xm_up (xm_up (xm_up (xm_up (xm_up (xm_up (xm_up (xm_up (xm_up (xm_up (xm_up (xm_up (xm_up (xm_up (xm_up (xm_up r (7, 1, 0) 4 (some (8, 1, 0))) (9, 1, 0) 0 (some (10, 1, 0))) (7, 1, 0) 5 (some (9, 1, 0))) (7, 1, 0) 6 (some (11, 1, 0))) (9, 1, 6) 0 (some (10, 1, 6))) (11, 1, 0) 0 (some (9, 1, 6))) (9, 1, 7) 0 (some (10, 1, 7))) (11, 1, 0) 1 (some (9, 1, 7))) (9, 1, 8) 0 (some (10, 1, 8))) (11, 1, 0) 2 (some (9, 1, 8))) (9, 1, 9) 0 (some (10, 1, 9))) (11, 1, 0) 3 (some (9, 1, 9))) (7, 1, 0) 7 (some (12, 1, 0))) (9, 1, 2) 0 (some (10, 1, 2))) (12, 1, 0) 0 (some (9, 1, 2))) (9, 1, 3) 0 (some (10, 1, 3)))) R
  refine pg_43_106 (en_ok (t := 4) (s := 0) (by decide +kernel)) (by decide) (by decide) (en_ok (s := 4) (by decide +kernel)) (i := 1) (rfl : (1 : Int32) = nI 1) (by decide) (by decide) ?_
  refine pg_43_107 (y := (2 : Int32)) (lv' := [some (xm_r (7, 1, 0)), some (xm_i (1 : Int32)), some (xm_i (4 : Int32)), some (xm_i (2 : Int32))]) rfl (by decide) rfl ?_
  refine pg_43_110 ?_
  refine pg_43_88 rfl ?_
  refine pg_43_89 ?_
  refine pg_43_90 (fun hc => absurd hc (by decide)) (fun _ => ?_)
  refine pg_43_93 rfl ?_
  refine pg_43_94 (en_ok (by decide +kernel)) rfl ?_
  refine pg_43_97 rfl ?_
  refine pg_43_98 (a := (9, 1, 4)) (en_a (by decide +kernel)) (en_k (by decide +kernel)) ?_
  show xm_G (en 4 L) (d + 1) true 43 101 [some (xm_r (7, 1, 0)), some (xm_i (1 : Int32)), some (xm_i (4 : Int32)), some (xm_i (2 : Int32))] [xm_r (9, 1, 4), xm_i (2 : Int32), xm_r (12, 1, 0)] ((51, 198), (xm_up (xm_up (xm_up fi (7, 1, 0) 0 (1 : Int32)) (7, 1, 0) 1 (4 : Int32)) (8, 1, 0) 2 (sp_1 (4 : Int32))), fl, (xm_up (xm_up (xm_up (xm_up (xm_up (xm_up (xm_up (xm_up (xm_up (xm_up (xm_up (xm_up (xm_up (xm_up (xm_up (xm_up (xm_up r (7, 1, 0) 4 (some (8, 1, 0))) (9, 1, 0) 0 (some (10, 1, 0))) (7, 1, 0) 5 (some (9, 1, 0))) (7, 1, 0) 6 (some (11, 1, 0))) (9, 1, 6) 0 (some (10, 1, 6))) (11, 1, 0) 0 (some (9, 1, 6))) (9, 1, 7) 0 (some (10, 1, 7))) (11, 1, 0) 1 (some (9, 1, 7))) (9, 1, 8) 0 (some (10, 1, 8))) (11, 1, 0) 2 (some (9, 1, 8))) (9, 1, 9) 0 (some (10, 1, 9))) (11, 1, 0) 3 (some (9, 1, 9))) (7, 1, 0) 7 (some (12, 1, 0))) (9, 1, 2) 0 (some (10, 1, 2))) (12, 1, 0) 0 (some (9, 1, 2))) (9, 1, 3) 0 (some (10, 1, 3))) (12, 1, 0) 1 (some (9, 1, 3)))) R
  refine pg_43_101 rfl ?_
  refine pg_43_102 rfl ?_
  refine pg_43_103 (Nat.le_of_ble_eq_true rfl) (ct_61 (m := 4) (b := (10, 1, 4)) (rfl : (4 : Int32) = nI 4) (by decide) (en_a (by decide +kernel)) (en_k (by decide +kernel)) (en_ok (by decide +kernel))) ?_
  show xm_G (en 4 L) (d + 1) true 43 106 [some (xm_r (7, 1, 0)), some (xm_i (1 : Int32)), some (xm_i (4 : Int32)), some (xm_i (2 : Int32))] [xm_r (9, 1, 4), xm_i (2 : Int32), xm_r (12, 1, 0)] ((52, 202), (xm_up (xm_up (xm_up fi (7, 1, 0) 0 (1 : Int32)) (7, 1, 0) 1 (4 : Int32)) (8, 1, 0) 2 (sp_1 (4 : Int32))), fl, (xm_up (xm_up (xm_up (xm_up (xm_up (xm_up (xm_up (xm_up (xm_up (xm_up (xm_up (xm_up (xm_up (xm_up (xm_up (xm_up (xm_up (xm_up r (7, 1, 0) 4 (some (8, 1, 0))) (9, 1, 0) 0 (some (10, 1, 0))) (7, 1, 0) 5 (some (9, 1, 0))) (7, 1, 0) 6 (some (11, 1, 0))) (9, 1, 6) 0 (some (10, 1, 6))) (11, 1, 0) 0 (some (9, 1, 6))) (9, 1, 7) 0 (some (10, 1, 7))) (11, 1, 0) 1 (some (9, 1, 7))) (9, 1, 8) 0 (some (10, 1, 8))) (11, 1, 0) 2 (some (9, 1, 8))) (9, 1, 9) 0 (some (10, 1, 9))) (11, 1, 0) 3 (some (9, 1, 9))) (7, 1, 0) 7 (some (12, 1, 0))) (9, 1, 2) 0 (some (10, 1, 2))) (12, 1, 0) 0 (some (9, 1, 2))) (9, 1, 3) 0 (some (10, 1, 3))) (12, 1, 0) 1 (some (9, 1, 3))) (9, 1, 4) 0 (some (10, 1, 4)))) R
  refine pg_43_106 (en_ok (t := 4) (s := 0) (by decide +kernel)) (by decide) (by decide) (en_ok (s := 4) (by decide +kernel)) (i := 2) (rfl : (2 : Int32) = nI 2) (by decide) (by decide) ?_
  refine pg_43_107 (y := (3 : Int32)) (lv' := [some (xm_r (7, 1, 0)), some (xm_i (1 : Int32)), some (xm_i (4 : Int32)), some (xm_i (3 : Int32))]) rfl (by decide) rfl ?_
  refine pg_43_110 ?_
  refine pg_43_88 rfl ?_
  refine pg_43_89 ?_
  refine pg_43_90 (fun hc => absurd hc (by decide)) (fun _ => ?_)
  refine pg_43_93 rfl ?_
  refine pg_43_94 (en_ok (by decide +kernel)) rfl ?_
  refine pg_43_97 rfl ?_
  refine pg_43_98 (a := (9, 1, 5)) (en_a (by decide +kernel)) (en_k (by decide +kernel)) ?_
  show xm_G (en 4 L) (d + 1) true 43 101 [some (xm_r (7, 1, 0)), some (xm_i (1 : Int32)), some (xm_i (4 : Int32)), some (xm_i (3 : Int32))] [xm_r (9, 1, 5), xm_i (3 : Int32), xm_r (12, 1, 0)] ((53, 204), (xm_up (xm_up (xm_up fi (7, 1, 0) 0 (1 : Int32)) (7, 1, 0) 1 (4 : Int32)) (8, 1, 0) 2 (sp_1 (4 : Int32))), fl, (xm_up (xm_up (xm_up (xm_up (xm_up (xm_up (xm_up (xm_up (xm_up (xm_up (xm_up (xm_up (xm_up (xm_up (xm_up (xm_up (xm_up (xm_up (xm_up r (7, 1, 0) 4 (some (8, 1, 0))) (9, 1, 0) 0 (some (10, 1, 0))) (7, 1, 0) 5 (some (9, 1, 0))) (7, 1, 0) 6 (some (11, 1, 0))) (9, 1, 6) 0 (some (10, 1, 6))) (11, 1, 0) 0 (some (9, 1, 6))) (9, 1, 7) 0 (some (10, 1, 7))) (11, 1, 0) 1 (some (9, 1, 7))) (9, 1, 8) 0 (some (10, 1, 8))) (11, 1, 0) 2 (some (9, 1, 8))) (9, 1, 9) 0 (some (10, 1, 9))) (11, 1, 0) 3 (some (9, 1, 9))) (7, 1, 0) 7 (some (12, 1, 0))) (9, 1, 2) 0 (some (10, 1, 2))) (12, 1, 0) 0 (some (9, 1, 2))) (9, 1, 3) 0 (some (10, 1, 3))) (12, 1, 0) 1 (some (9, 1, 3))) (9, 1, 4) 0 (some (10, 1, 4))) (12, 1, 0) 2 (some (9, 1, 4)))) R
  refine pg_43_101 rfl ?_
  refine pg_43_102 rfl ?_
  refine pg_43_103 (Nat.le_of_ble_eq_true rfl) (ct_61 (m := 4) (b := (10, 1, 5)) (rfl : (4 : Int32) = nI 4) (by decide) (en_a (by decide +kernel)) (en_k (by decide +kernel)) (en_ok (by decide +kernel))) ?_
  show xm_G (en 4 L) (d + 1) true 43 106 [some (xm_r (7, 1, 0)), some (xm_i (1 : Int32)), some (xm_i (4 : Int32)), some (xm_i (3 : Int32))] [xm_r (9, 1, 5), xm_i (3 : Int32), xm_r (12, 1, 0)] ((54, 208), (xm_up (xm_up (xm_up fi (7, 1, 0) 0 (1 : Int32)) (7, 1, 0) 1 (4 : Int32)) (8, 1, 0) 2 (sp_1 (4 : Int32))), fl, (xm_up (xm_up (xm_up (xm_up (xm_up (xm_up (xm_up (xm_up (xm_up (xm_up (xm_up (xm_up (xm_up (xm_up (xm_up (xm_up (xm_up (xm_up (xm_up (xm_up r (7, 1, 0) 4 (some (8, 1, 0))) (9, 1, 0) 0 (some (10, 1, 0))) (7, 1, 0) 5 (some (9, 1, 0))) (7, 1, 0) 6 (some (11, 1, 0))) (9, 1, 6) 0 (some (10, 1, 6))) (11, 1, 0) 0 (some (9, 1, 6))) (9, 1, 7) 0 (some (10, 1, 7))) (11, 1, 0) 1 (some (9, 1, 7))) (9, 1, 8) 0 (some (10, 1, 8))) (11, 1, 0) 2 (some (9, 1, 8))) (9, 1, 9) 0 (some (10, 1, 9))) (11, 1, 0) 3 (some (9, 1, 9))) (7, 1, 0) 7 (some (12, 1, 0))) (9, 1, 2) 0 (some (10, 1, 2))) (12, 1, 0) 0 (some (9, 1, 2))) (9, 1, 3) 0 (some (10, 1, 3))) (12, 1, 0) 1 (some (9, 1, 3))) (9, 1, 4) 0 (some (10, 1, 4))) (12, 1, 0) 2 (some (9, 1, 4))) (9, 1, 5) 0 (some (10, 1, 5)))) R
  refine pg_43_106 (en_ok (t := 4) (s := 0) (by decide +kernel)) (by decide) (by decide) (en_ok (s := 4) (by decide +kernel)) (i := 3) (rfl : (3 : Int32) = nI 3) (by decide) (by decide) ?_
  refine pg_43_107 (y := (4 : Int32)) (lv' := [some (xm_r (7, 1, 0)), some (xm_i (1 : Int32)), some (xm_i (4 : Int32)), some (xm_i (4 : Int32))]) rfl (by decide) rfl ?_
  refine pg_43_110 ?_
  refine pg_43_88 rfl ?_
  refine pg_43_89 ?_
  refine pg_43_90 (fun _ => ?_) (fun hc => absurd (by decide) hc)
  refine pg_43_113 rfl ?_
  refine pg_43_114 (a := (9, 1, 1)) (en_a (by decide +kernel)) (en_k (by decide +kernel)) ?_
  show xm_G (en 4 L) (d + 1) true 43 117 [some (xm_r (7, 1, 0)), some (xm_i (1 : Int32)), some (xm_i (4 : Int32)), some (xm_i (4 : Int32))] [xm_r (9, 1, 1), xm_r (7, 1, 0)] ((55, 210), (xm_up (xm_up (xm_up fi (7, 1, 0) 0 (1 : Int32)) (7, 1, 0) 1 (4 : Int32)) (8, 1, 0) 2 (sp_1 (4 : Int32))), fl, (xm_up (xm_up (xm_up (xm_up (xm_up (xm_up (xm_up (xm_up (xm_up (xm_up (xm_up (xm_up (xm_up (xm_up (xm_up (xm_up (xm_up (xm_up (xm_up (xm_up (xm_up r (7, 1, 0) 4 (some (8, 1, 0))) (9, 1, 0) 0 (some (10, 1, 0))) (7, 1, 0) 5 (some (9, 1, 0))) (7, 1, 0) 6 (some (11, 1, 0))) (9, 1, 6) 0 (some (10, 1, 6))) (11, 1, 0) 0 (some (9, 1, 6))) (9, 1, 7) 0 (some (10, 1, 7))) (11, 1, 0) 1 (some (9, 1, 7))) (9, 1, 8) 0 (some (10, 1, 8))) (11, 1, 0) 2 (some (9, 1, 8))) (9, 1, 9) 0 (some (10, 1, 9))) (11, 1, 0) 3 (some (9, 1, 9))) (7, 1, 0) 7 (some (12, 1, 0))) (9, 1, 2) 0 (some (10, 1, 2))) (12, 1, 0) 0 (some (9, 1, 2))) (9, 1, 3) 0 (some (10, 1, 3))) (12, 1, 0) 1 (some (9, 1, 3))) (9, 1, 4) 0 (some (10, 1, 4))) (12, 1, 0) 2 (some (9, 1, 4))) (9, 1, 5) 0 (some (10, 1, 5))) (12, 1, 0) 3 (some (9, 1, 5)))) R
  refine pg_43_117 rfl ?_
  refine pg_43_118 rfl ?_
  refine pg_43_119 (Nat.le_of_ble_eq_true rfl) (ct_61 (m := 4) (b := (10, 1, 1)) (rfl : (4 : Int32) = nI 4) (by decide) (en_a (by decide +kernel)) (en_k (by decide +kernel)) (en_ok (by decide +kernel))) ?_
  show xm_G (en 4 L) (d + 1) true 43 122 [some (xm_r (7, 1, 0)), some (xm_i (1 : Int32)), some (xm_i (4 : Int32)), some (xm_i (4 : Int32))] [xm_r (9, 1, 1), xm_r (7, 1, 0)] ((56, 214), (xm_up (xm_up (xm_up fi (7, 1, 0) 0 (1 : Int32)) (7, 1, 0) 1 (4 : Int32)) (8, 1, 0) 2 (sp_1 (4 : Int32))), fl, (xm_up (xm_up (xm_up (xm_up (xm_up (xm_up (xm_up (xm_up (xm_up (xm_up (xm_up (xm_up (xm_up (xm_up (xm_up (xm_up (xm_up (xm_up (xm_up (xm_up (xm_up (xm_up r (7, 1, 0) 4 (some (8, 1, 0))) (9, 1, 0) 0 (some (10, 1, 0))) (7, 1, 0) 5 (some (9, 1, 0))) (7, 1, 0) 6 (some (11, 1, 0))) (9, 1, 6) 0 (some (10, 1, 6))) (11, 1, 0) 0 (some (9, 1, 6))) (9, 1, 7) 0 (some (10, 1, 7))) (11, 1, 0) 1 (some (9, 1, 7))) (9, 1, 8) 0 (some (10, 1, 8))) (11, 1, 0) 2 (some (9, 1, 8))) (9, 1, 9) 0 (some (10, 1, 9))) (11, 1, 0) 3 (some (9, 1, 9))) (7, 1, 0) 7 (some (12, 1, 0))) (9, 1, 2) 0 (some (10, 1, 2))) (12, 1, 0) 0 (some (9, 1, 2))) (9, 1, 3) 0 (some (10, 1, 3))) (12, 1, 0) 1 (some (9, 1, 3))) (9, 1, 4) 0 (some (10, 1, 4))) (12, 1, 0) 2 (some (9, 1, 4))) (9, 1, 5) 0 (some (10, 1, 5))) (12, 1, 0) 3 (some (9, 1, 5))) (9, 1, 1) 0 (some (10, 1, 1)))) R
  refine pg_43_122 (en_ok (by decide +kernel)) ?_
  refine pg_43_125 rfl ?_
  refine pg_43_126 rfl ?_
  refine pg_43_127 (n := 4) (rfl : (4 : Int32) = nI 4) (by decide) (en_a (a := (13, 1, 0)) (by decide +kernel)) (en_k (by decide +kernel)) ?_
  show xm_G (en 4 L) (d + 1) true 43 129 [some (xm_r (7, 1, 0)), some (xm_i (1 : Int32)), some (xm_i (4 : Int32)), some (xm_i (4 : Int32))] [xm_r (13, 1, 0), xm_r (7, 1, 0)] ((57, 218), (xm_up (xm_up (xm_up fi (7, 1, 0) 0 (1 : Int32)) (7, 1, 0) 1 (4 : Int32)) (8, 1, 0) 2 (sp_1 (4 : Int32))), fl, (xm_up (xm_up (xm_up (xm_up (xm_up (xm_up (xm_up (xm_up (xm_up (xm_up (xm_up (xm_up (xm_up (xm_up (xm_up (xm_up (xm_up (xm_up (xm_up (xm_up (xm_up (xm_up (xm_up r (7, 1, 0) 4 (some (8, 1, 0))) (9, 1, 0) 0 (some (10, 1, 0))) (7, 1, 0) 5 (some (9, 1, 0))) (7, 1, 0) 6 (some (11, 1, 0))) (9, 1, 6) 0 (some (10, 1, 6))) (11, 1, 0) 0 (some (9, 1, 6))) (9, 1, 7) 0 (some (10, 1, 7))) (11, 1, 0) 1 (some (9, 1, 7))) (9, 1, 8) 0 (some (10, 1, 8))) (11, 1, 0) 2 (some (9, 1, 8))) (9, 1, 9) 0 (some (10, 1, 9))) (11, 1, 0) 3 (some (9, 1, 9))) (7, 1, 0) 7 (some (12, 1, 0))) (9, 1, 2) 0 (some (10, 1, 2))) (12, 1, 0) 0 (some (9, 1, 2))) (9, 1, 3) 0 (some (10, 1, 3))) (12, 1, 0) 1 (some (9, 1, 3))) (9, 1, 4) 0 (some (10, 1, 4))) (12, 1, 0) 2 (some (9, 1, 4))) (9, 1, 5) 0 (some (10, 1, 5))) (12, 1, 0) 3 (some (9, 1, 5))) (9, 1, 1) 0 (some (10, 1, 1))) (7, 1, 0) 8 (some (9, 1, 1)))) R
  refine pg_43_129 (en_ok (by decide +kernel)) ?_
  exact go_eq hR.symm (pg_43_132)
def cf_43_4_2 (fi : FI) : FI := (xm_up (xm_up (xm_up fi (7, 2, 0) 0 (2 : Int32)) (7, 2, 0) 1 (4 : Int32)) (8, 2, 0) 2 (sp_1 (4 : Int32)))
def cr_43_4_2 (r : xm_I → Nat → Option xm_I) : xm_I → Nat → Option xm_I := (xm_up (xm_up (xm_up (xm_up (xm_up (xm_up (xm_up (xm_up (xm_up (xm_up (xm_up (xm_up (xm_up (xm_up (xm_up (xm_up (xm_up (xm_up (xm_up (xm_up (xm_up (xm_up (xm_up (xm_up r (7, 2, 0) 4 (some (8, 2, 0))) (9, 2, 0) 0 (some (10, 2, 0))) (7, 2, 0) 5 (some (9, 2, 0))) (7, 2, 0) 6 (some (11, 2, 0))) (9, 2, 6) 0 (some (10, 2, 6))) (11, 2, 0) 0 (some (9, 2, 6))) (9, 2, 7) 0 (some (10, 2, 7))) (11, 2, 0) 1 (some (9, 2, 7))) (9, 2, 8) 0 (some (10, 2, 8))) (11, 2, 0) 2 (some (9, 2, 8))) (9, 2, 9) 0 (some (10, 2, 9))) (11, 2, 0) 3 (some (9, 2, 9))) (7, 2, 0) 7 (some (12, 2, 0))) (9, 2, 2) 0 (some (10, 2, 2))) (12, 2, 0) 0 (some (9, 2, 2))) (9, 2, 3) 0 (some (10, 2, 3))) (12, 2, 0) 1 (some (9, 2, 3))) (9, 2, 4) 0 (some (10, 2, 4))) (12, 2, 0) 2 (some (9, 2, 4))) (9, 2, 5) 0 (some (10, 2, 5))) (12, 2, 0) 3 (some (9, 2, 5))) (9, 2, 1) 0 (some (10, 2, 1))) (7, 2, 0) 8 (some (9, 2, 1))) (7, 2, 0) 9 (some (13, 2, 0)))
set_option maxRecDepth 8000 in
theorem ct_43_4_2 {L : Nat} {fi : FI} {fl : FL} {r : xm_I → Nat → Option xm_I} {d : Nat} : xm_C (en 4 L) (d + 2) true 43 [xm_r (7, 2, 0), xm_i (2 : Int32), xm_i (4 : Int32)] ((58, 231), fi, fl, r) (.inl none, ((82, 307), cf_43_4_2 fi, fl, cr_43_4_2 r)) := by
  suffices key : ∀ (E : xm_E) (R : xm_O), E = en 4 L → ((.inl none, ((82, 307), cf_43_4_2 fi, fl, cr_43_4_2 r)) : xm_O) = R → xm_G (en 4 L) (d + 1) true 43 0 [some (xm_r (7, 2, 0)), some (xm_i (2 : Int32)), some (xm_i (4 : Int32)), none] [] ((58, 231), fi, fl, r) R from go_inr (by decide) (Nat.le_of_ble_eq_true rfl) (key _ _ rfl rfl)
  intro E R hE hR
  refine pg_43_0 rfl ?_
  refine pg_43_1 (Nat.le_of_ble_eq_true rfl) ?_
  refine pg_43_4 rfl ?_
  refine pg_43_5 rfl ?_
  refine pg_43_6 (en_ok (by decide +kernel)) ?_
  refine pg_43_9 rfl ?_
  refine pg_43_10 rfl ?_
  refine pg_43_11 (en_ok (by decide +kernel)) ?_
  refine pg_43_14 rfl ?_
  refine pg_43_15 ?_
  refine pg_43_16 (n := 4) (rfl : (4 : Int32) = nI 4) (by decide) (en_a (a := (8, 2, 0)) (by decide +kernel)) (en_k (by decide +kernel)) ?_
  show xm_G (en 4 L) (d + 1) true 43 18 [some (xm_r (7, 2, 0)), some (xm_i (2 : Int32)), some (xm_i (4 : Int32)), none] [xm_r (8, 2, 0), xm_r (7, 2, 0)] ((59, 235), (xm_up (xm_up fi (7, 2, 0) 0 (2 : Int32)) (7, 2, 0) 1 (4 : Int32)), fl, r) R
  refine pg_43_18 (en_ok (by decide +kernel)) ?_
  refine pg_43_21 rfl ?_
  refine pg_43_22 (en_ok (by decide +kernel)) rfl ?_
  refine pg_43_25 ?_
  refine pg_43_26 rfl ?_
  refine pg_43_27 (Nat.le_of_ble_eq_true rfl) (ct_1 (x := (4 : Int32))) ?_
  refine pg_43_30 (en_ok (s := 4) (by decide +kernel)) (i := 2) (rfl : (2 : Int32) = nI 2) (by omega) (by omega) ?_
  refine pg_43_31 rfl ?_
  refine pg_43_32 (a := (9, 2, 0)) (en_a (by decide +kernel)) (en_k (by decide +kernel)) ?_
  show xm_G (en 4 L) (d + 1) true 43 35 [some (xm_r (7, 2, 0)), some (xm_i (2 : Int32)), some (xm_i (4 : Int32)), none] [xm_r (9, 2, 0), xm_r (7, 2, 0)] ((60, 237), (xm_up (xm_up (xm_up fi (7, 2, 0) 0 (2 : Int32)) (7, 2, 0) 1 (4 : Int32)) (8, 2, 0) 2 (sp_1 (4 : Int32))), fl, (xm_up r (7, 2, 0) 4 (some (8, 2, 0)))) R
  refine pg_43_35 rfl ?_
  refine pg_43_36 rfl ?_
  refine pg_43_37 (Nat.le_of_ble_eq_true rfl) (ct_61 (m := 4) (b := (10, 2, 0)) (rfl : (4 : Int32) = nI 4) (by decide) (en_a (by decide +kernel)) (en_k (by decide +kernel)) (en_ok (by decide +kernel))) ?_
  show xm_G (en 4 L) (d + 1) true 43 40 [some (xm_r (7, 2, 0)), some (xm_i (2 : Int32)), some (xm_i (4 : Int32)), none] [xm_r (9, 2, 0), xm_r (7, 2, 0)] ((61, 241), (xm_up (xm_up (xm_up fi (7, 2, 0) 0 (2 : Int32)) (7, 2, 0) 1 (4 : Int32)) (8, 2, 0) 2 (sp_1 (4 : Int32))), fl, (xm_up (xm_up r (7, 2, 0) 4 (some (8, 2, 0))) (9, 2, 0) 0 (some (10, 2, 0)))) R
  refine pg_43_40 (en_ok (by decide +kernel)) ?_
  refine pg_43_43 rfl ?_
  refine pg_43_44 rfl ?_
  refine pg_43_45 (n := 4) (rfl : (4 : Int32) = nI 4) (by decide) (en_a (a := (11, 2, 0)) (by decide +kernel)) (en_k (by decide +kernel)) ?_
  show xm_G (en 4 L) (d + 1) true 43 48 [some (xm_r (7, 2, 0)), some (xm_i (2 : Int32)), some (xm_i (4 : Int32)), none] [xm_r (11, 2, 0), xm_r (7, 2, 0)] ((62, 245), (xm_up (xm_up (xm_up fi (7, 2, 0) 0 (2 : Int32)) (7, 2, 0) 1 (4 : Int32)) (8, 2, 0) 2 (sp_1 (4 : Int32))), fl, (xm_up (xm_up (xm_up r (7, 2, 0) 4 (some (8, 2, 0))) (9, 2, 0) 0 (some (10, 2, 0))) (7, 2, 0) 5 (some (9, 2, 0)))) R
  refine pg_43_48 (en_ok (by decide +kernel)) ?_
  refine pg_43_51 ?_
  refine pg_43_52 (lv' := [some (xm_r (7, 2, 0)), some (xm_i (2 : Int32)), some (xm_i (4 : Int32)), some (xm_i (0 : Int32))]) rfl ?_
  refine pg_43_53 rfl ?_
  refine pg_43_54 rfl ?_
  refine pg_43_55 (fun hc => absurd hc (by decide)) (fun _ => ?_)
  refine pg_43_58 rfl ?_
  refine pg_43_59 (en_ok (by decide +kernel)) rfl ?_
  refine pg_43_62 rfl ?_
  refine pg_43_63 (a := (9, 2, 6)) (en_a (by decide +kernel)) (en_k (by decide +kernel)) ?_
  show xm_G (en 4 L) (d + 1) true 43 66 [some (xm_r (7, 2, 0)), some (xm_i (2 : Int32)), some (xm_i (4 : Int32)), some (xm_i (0 : Int32))] [xm_r (9, 2, 6), xm_i (0 : Int32), xm_r (11, 2, 0)] ((63, 247), (xm_up (xm_up (xm_up fi (7, 2, 0) 0 (2 : Int32)) (7, 2, 0) 1 (4 : Int32)) (8, 2, 0) 2 (sp_1 (4 : Int32))), fl, (xm_up (xm_up (xm_up (xm_up r (7, 2, 0) 4 (some (8, 2, 0))) (9, 2, 0) 0 (some (10, 2, 0))) (7, 2, 0) 5 (some (9, 2, 0))) (7, 2, 0) 6 (some (11, 2, 0)))) R
  refine pg_43_66 rfl ?_
  refine pg_43_67 rfl ?_
  refine pg_43_68 (Nat.le_of_ble_eq_true rfl) (ct_61 (m := 4) (b := (10, 2, 6)) (rfl : (4 : Int32) = nI 4) (by decide) (en_a (by decide +kernel)) (en_k (by decide +kernel)) (en_ok (by decide +kernel))) ?_
  show xm_G (en 4 L) (d + 1) true 43 71 [some (xm_r (7, 2, 0)), some (xm_i (2 : Int32)), some (xm_i (4 : Int32)), some (xm_i (0 : Int32))] [xm_r (9, 2, 6), xm_i (0 : Int32), xm_r (11, 2, 0)] ((64, 251), (xm_up (xm_up (xm_up fi (7, 2, 0) 0 (2 : Int32)) (7, 2, 0) 1 (4 : Int32)) (8, 2, 0) 2 (sp_1 (4 : Int32))), fl, (xm_up (xm_up (xm_up (xm_up (xm_up r (7, 2, 0) 4 (some (8, 2, 0))) (9, 2, 0) 0 (some (10, 2, 0))) (7, 2, 0) 5 (some (9, 2, 0))) (7, 2, 0) 6 (some (11, 2, 0))) (9, 2, 6) 0 (some (10, 2, 6)))) R
  refine pg_43_71 (en_ok (t := 4) (s := 0) (by decide +kernel)) (by decide) (by decide) (en_ok (s := 4) (by decide +kernel)) (i := 0) (rfl : (0 : Int32) = nI 0) (by decide) (by decide) ?_
  refine pg_43_72 (y := (1 : Int32)) (lv' := [some (xm_r (7, 2, 0)), some (xm_i (2 : Int32)), some (xm_i (4 : Int32)), some (xm_i (1 : Int32))]) rfl (by decide) rfl ?_
  refine pg_43_75 ?_
  refine pg_43_53 rfl ?_
  refine pg_43_54 rfl ?_
  refine pg_43_55 (fun hc => absurd hc (by decide)) (fun _ => ?_)
  refine pg_43_58 rfl ?_
  refine pg_43_59 (en_ok (by decide +kernel)) rfl ?_
  refine pg_43_62 rfl ?_
  refine pg_43_63 (a := (9, 2, 7)) (en_a (by decide +kernel)) (en_k (by decide +kernel)) ?_
  show xm_G (en 4 L) (d + 1) true 43 66 [some (xm_r (7, 2, 0)), some (xm_i (2 : Int32)), some (xm_i (4 : Int32)), some (xm_i (1 : Int32))] [xm_r (9, 2, 7), xm_i (1 : Int32), xm_r (11, 2, 0)] ((65, 253), (xm_up (xm_up (xm_up fi (7, 2, 0) 0 (2 : Int32)) (7, 2, 0) 1 (4 : Int32)) (8, 2, 0) 2 (sp_1 (4 : Int32))), fl, (xm_up (xm_up (xm_up (xm_up (xm_up (xm_up r (7, 2, 0) 4 (some (8, 2, 0))) (9, 2, 0) 0 (some (10, 2, 0))) (7, 2, 0) 5 (some (9, 2, 0))) (7, 2, 0) 6 (some (11, 2, 0))) (9, 2, 6) 0 (some (10, 2, 6))) (11, 2, 0) 0 (some (9, 2, 6)))) R
  refine pg_43_66 rfl ?_
  refine pg_43_67 rfl ?_
  refine pg_43_68 (Nat.le_of_ble_eq_true rfl) (ct_61 (m := 4) (b := (10, 2, 7)) (rfl : (4 : Int32) = nI 4) (by decide) (en_a (by decide +kernel)) (en_k (by decide +kernel)) (en_ok (by decide +kernel))) ?_
  show xm_G (en 4 L) (d + 1) true 43 71 [some (xm_r (7, 2, 0)), some (xm_i (2 : Int32)), some (xm_i (4 : Int32)), some (xm_i (1 : Int32))] [xm_r (9, 2, 7), xm_i (1 : Int32), xm_r (11, 2, 0)] ((66, 257), (xm_up (xm_up (xm_up fi (7, 2, 0) 0 (2 : Int32)) (7, 2, 0) 1 (4 : Int32)) (8, 2, 0) 2 (sp_1 (4 : Int32))), fl, (xm_up (xm_up (xm_up (xm_up (xm_up (xm_up (xm_up r (7, 2, 0) 4 (some (8, 2, 0))) (9, 2, 0) 0 (some (10, 2, 0))) (7, 2, 0) 5 (some (9, 2, 0))) (7, 2, 0) 6 (some (11, 2, 0))) (9, 2, 6) 0 (some (10, 2, 6))) (11, 2, 0) 0 (some (9, 2, 6))) (9, 2, 7) 0 (some (10, 2, 7)))) R
  refine pg_43_71 (en_ok (t := 4) (s := 0) (by decide +kernel)) (by decide) (by decide) (en_ok (s := 4) (by decide +kernel)) (i := 1) (rfl : (1 : Int32) = nI 1) (by decide) (by decide) ?_
  refine pg_43_72 (y := (2 : Int32)) (lv' := [some (xm_r (7, 2, 0)), some (xm_i (2 : Int32)), some (xm_i (4 : Int32)), some (xm_i (2 : Int32))]) rfl (by decide) rfl ?_
  refine pg_43_75 ?_
  refine pg_43_53 rfl ?_
  refine pg_43_54 rfl ?_
  refine pg_43_55 (fun hc => absurd hc (by decide)) (fun _ => ?_)
  refine pg_43_58 rfl ?_
  refine pg_43_59 (en_ok (by decide +kernel)) rfl ?_
  refine pg_43_62 rfl ?_
  refine pg_43_63 (a := (9, 2, 8)) (en_a (by decide +kernel)) (en_k (by decide +kernel)) ?_
  show xm_G (en 4 L) (d + 1) true 43 66 [some (xm_r (7, 2, 0)), some (xm_i (2 : Int32)), some (xm_i (4 : Int32)), some (xm_i (2 : Int32))] [xm_r (9, 2, 8), xm_i (2 : Int32), xm_r (11, 2, 0)] ((67, 259), (xm_up (xm_up (xm_up fi (7, 2, 0) 0 (2 : Int32)) (7, 2, 0) 1 (4 : Int32)) (8, 2, 0) 2 (sp_1 (4 : Int32))), fl, (xm_up (xm_up (xm_up (xm_up (xm_up (xm_up (xm_up (xm_up r (7, 2, 0) 4 (some (8, 2, 0))) (9, 2, 0) 0 (some (10, 2, 0))) (7, 2, 0) 5 (some (9, 2, 0))) (7, 2, 0) 6 (some (11, 2, 0))) (9, 2, 6) 0 (some (10, 2, 6))) (11, 2, 0) 0 (some (9, 2, 6))) (9, 2, 7) 0 (some (10, 2, 7))) (11, 2, 0) 1 (some (9, 2, 7)))) R
  refine pg_43_66 rfl ?_
  refine pg_43_67 rfl ?_
  refine pg_43_68 (Nat.le_of_ble_eq_true rfl) (ct_61 (m := 4) (b := (10, 2, 8)) (rfl : (4 : Int32) = nI 4) (by decide) (en_a (by decide +kernel)) (en_k (by decide +kernel)) (en_ok (by decide +kernel))) ?_
  show xm_G (en 4 L) (d + 1) true 43 71 [some (xm_r (7, 2, 0)), some (xm_i (2 : Int32)), some (xm_i (4 : Int32)), some (xm_i (2 : Int32))] [xm_r (9, 2, 8), xm_i (2 : Int32), xm_r (11, 2, 0)] ((68, 263), (xm_up (xm_up (xm_up fi (7, 2, 0) 0 (2 : Int32)) (7, 2, 0) 1 (4 : Int32)) (8, 2, 0) 2 (sp_1 (4 : Int32))), fl, (xm_up (xm_up (xm_up (xm_up (xm_up (xm_up (xm_up (xm_up (xm_up r (7, 2, 0) 4 (some (8, 2, 0))) (9, 2, 0) 0 (some (10, 2, 0))) (7, 2, 0) 5 (some (9, 2, 0))) (7, 2, 0) 6 (some (11, 2, 0))) (9, 2, 6) 0 (some (10, 2, 6))) (11, 2, 0) 0 (some (9, 2, 6))) (9, 2, 7) 0 (some (10, 2, 7))) (11, 2, 0) 1 (some (9, 2, 7))) (9, 2, 8) 0 (some (10, 2, 8)))) R
  refine pg_43_71 (en_ok (t := 4) (s := 0) (by decide +kernel)) (by decide) (by decide) (en_ok (s := 4) (by decide +kernel)) (i := 2) (rfl : (2 : Int32) = nI 2) (by decide) (by decide) ?_
  refine pg_43_72 (y := (3 : Int32)) (lv' := [some (xm_r (7, 2, 0)), some (xm_i (2 : Int32)), some (xm_i (4 : Int32)), some (xm_i (3 : Int32))]) rfl (by decide) rfl ?_
  refine pg_43_75 ?_
  refine pg_43_53 rfl ?_
  refine pg_43_54 rfl ?_
  refine pg_43_55 (fun hc => absurd hc (by decide)) (fun _ => ?_)
  refine pg_43_58 rfl ?_
  refine pg_43_59 (en_ok (by decide +kernel)) rfl ?_
  refine pg_43_62 rfl ?_
  refine pg_43_63 (a := (9, 2, 9)) (en_a (by decide +kernel)) (en_k (by decide +kernel)) ?_
  show xm_G (en 4 L) (d + 1) true 43 66 [some (xm_r (7, 2, 0)), some (xm_i (2 : Int32)), some (xm_i (4 : Int32)), some (xm_i (3 : Int32))] [xm_r (9, 2, 9), xm_i (3 : Int32), xm_r (11, 2, 0)] ((69, 265), (xm_up (xm_up (xm_up fi (7, 2, 0) 0 (2 : Int32)) (7, 2, 0) 1 (4 : Int32)) (8, 2, 0) 2 (sp_1 (4 : Int32))), fl, (xm_up (xm_up (xm_up (xm_up (xm_up (xm_up (xm_up (xm_up (xm_up (xm_up r (7, 2, 0) 4 (some (8, 2, 0))) (9, 2, 0) 0 (some (10, 2, 0))) (7, 2, 0) 5 (some (9, 2, 0))) (7, 2, 0) 6 (some (11, 2, 0))) (9, 2, 6) 0 (some (10, 2, 6))) (11, 2, 0) 0 (some (9, 2, 6))) (9, 2, 7) 0 (some (10, 2, 7))) (11, 2, 0) 1 (some (9, 2, 7))) (9, 2, 8) 0 (some (10, 2, 8))) (11, 2, 0) 2 (some (9, 2, 8)))) R
  refine pg_43_66 rfl ?_
  refine pg_43_67 rfl ?_
  refine pg_43_68 (Nat.le_of_ble_eq_true rfl) (ct_61 (m := 4) (b := (10, 2, 9)) (rfl : (4 : Int32) = nI 4) (by decide) (en_a (by decide +kernel)) (en_k (by decide +kernel)) (en_ok (by decide +kernel))) ?_
  show xm_G (en 4 L) (d + 1) true 43 71 [some (xm_r (7, 2, 0)), some (xm_i (2 : Int32)), some (xm_i (4 : Int32)), some (xm_i (3 : Int32))] [xm_r (9, 2, 9), xm_i (3 : Int32), xm_r (11, 2, 0)] ((70, 269), (xm_up (xm_up (xm_up fi (7, 2, 0) 0 (2 : Int32)) (7, 2, 0) 1 (4 : Int32)) (8, 2, 0) 2 (sp_1 (4 : Int32))), fl, (xm_up (xm_up (xm_up (xm_up (xm_up (xm_up (xm_up (xm_up (xm_up (xm_up (xm_up r (7, 2, 0) 4 (some (8, 2, 0))) (9, 2, 0) 0 (some (10, 2, 0))) (7, 2, 0) 5 (some (9, 2, 0))) (7, 2, 0) 6 (some (11, 2, 0))) (9, 2, 6) 0 (some (10, 2, 6))) (11, 2, 0) 0 (some (9, 2, 6))) (9, 2, 7) 0 (some (10, 2, 7))) (11, 2, 0) 1 (some (9, 2, 7))) (9, 2, 8) 0 (some (10, 2, 8))) (11, 2, 0) 2 (some (9, 2, 8))) (9, 2, 9) 0 (some (10, 2, 9)))) R
  refine pg_43_71 (en_ok (t := 4) (s := 0) (by decide +kernel)) (by decide) (by decide) (en_ok (s := 4) (by decide +kernel)) (i := 3) (rfl : (3 : Int32) = nI 3) (by decide) (by decide) ?_
  refine pg_43_72 (y := (4 : Int32)) (lv' := [some (xm_r (7, 2, 0)), some (xm_i (2 : Int32)), some (xm_i (4 : Int32)), some (xm_i (4 : Int32))]) rfl (by decide) rfl ?_
  refine pg_43_75 ?_
  refine pg_43_53 rfl ?_
  refine pg_43_54 rfl ?_
  refine pg_43_55 (fun _ => ?_) (fun hc => absurd (by decide) hc)
  refine pg_43_78 rfl ?_
  refine pg_43_79 ?_
  refine pg_43_80 (n := 4) (rfl : (4 : Int32) = nI 4) (by decide) (en_a (a := (12, 2, 0)) (by decide +kernel)) (en_k (by decide +kernel)) ?_
  show xm_G (en 4 L) (d + 1) true 43 83 [some (xm_r (7, 2, 0)), some (xm_i (2 : Int32)), some (xm_i (4 : Int32)), some (xm_i (4 : Int32))] [xm_r (12, 2, 0), xm_r (7, 2, 0)] ((71, 273), (xm_up (xm_up (xm_up fi (7, 2, 0) 0 (2 : Int32)) (7, 2, 0) 1 (4 : Int32)) (8, 2, 0) 2 (sp_1 (4 : Int32))), fl, (xm_up (xm_up (xm_up (xm_up (xm_up (xm_up (xm_up (xm_up (xm_up (xm_up (xm_up (xm_up r (7, 2, 0) 4 (some (8, 2, 0))) (9, 2, 0) 0 (some (10, 2, 0))) (7, 2, 0) 5 (some (9, 2, 0))) (7, 2, 0) 6 (some (11, 2, 0))) (9, 2, 6) 0 (some (10, 2, 6))) (11, 2, 0) 0 (some (9, 2, 6))) (9, 2, 7) 0 (some (10, 2, 7))) (11, 2, 0) 1 (some (9, 2, 7))) (9, 2, 8) 0 (some (10, 2, 8))) (11, 2, 0) 2 (some (9, 2, 8))) (9, 2, 9) 0 (some (10, 2, 9))) (11, 2, 0) 3 (some (9, 2, 9)))) R
  refine pg_43_83 (en_ok (by decide +kernel)) ?_
  refine pg_43_86 ?_
  refine pg_43_87 (lv' := [some (xm_r (7, 2, 0)), some (xm_i (2 : Int32)), some (xm_i (4 : Int32)), some (xm_i (0 : Int32))]) rfl ?_
  refine pg_43_88 rfl ?_
  refine pg_43_89 ?_
  refine pg_43_90 (fun hc => absurd hc (by decide)) (fun _ => ?_)
  refine pg_43_93 rfl ?_
  refine pg_43_94 (en_ok (by decide +kernel)) rfl ?_
  refine pg_43_97 rfl ?_
  refine pg_43_98 (a := (9, 2, 2)) (en_a (by decide +kernel)) (en_k (by decide +kernel)) ?_
  show xm_G (en 4 L) (d + 1) true 43 101 [some (xm_r (7, 2, 0)), some (xm_i (2 : Int32)), some (xm_i (4 : Int32)), some (xm_i (0 : Int32))] [xm_r (9, 2, 2), xm_i (0 : Int32), xm_r (12, 2, 0)] ((72, 275), (xm_up (xm_up (xm_up fi (7, 2, 0) 0 (2 : Int32)) (7, 2, 0) 1 (4 : Int32)) (8, 2, 0) 2 (sp_1 (4 : Int32))), fl, (xm_up (xm_up (xm_up (xm_up (xm_up (xm_up (xm_up (xm_up (xm_up (xm_up (xm_up (xm_up (xm_up r (7, 2, 0) 4 (some (8, 2, 0))) (9, 2, 0) 0 (some (10, 2, 0))) (7, 2, 0) 5 (some (9, 2, 0))) (7, 2, 0) 6 (some (11, 2, 0))) (9, 2, 6) 0 (some (10, 2, 6))) (11, 2, 0) 0 (some (9, 2, 6))) (9, 2, 7) 0 (some (10, 2, 7))) (11, 2, 0) 1 (some (9, 2, 7))) (9, 2, 8) 0 (some (10, 2, 8))) (11, 2, 0) 2 (some (9, 2, 8))) (9, 2, 9) 0 (some (10, 2, 9))) (11, 2, 0) 3 (some (9, 2, 9))) (7, 2, 0) 7 (some (12, 2, 0)))) R
  refine pg_43_101 rfl ?_
  refine pg_43_102 rfl ?_
  refine pg_43_103 (Nat.le_of_ble_eq_true rfl) (ct_61 (m := 4) (b := (10, 2, 2)) (rfl : (4 : Int32) = nI 4) (by decide) (en_a (by decide +kernel)) (en_k (by decide +kernel)) (en_ok (by decide +kernel))) ?_
  show xm_G (en 4 L) (d + 1) true 43 106 [some (xm_r (7, 2, 0)), some (xm_i (2 : Int32)), some (xm_i (4 : Int32)), some (xm_i (0 : Int32))] [xm_r (9, 2, 2), xm_i (0 : Int32), xm_r (12, 2, 0)] ((73, 279), (xm_up (xm_up (xm_up fi (7, 2, 0) 0 (2 : Int32)) (7, 2, 0) 1 (4 : Int32)) (8, 2, 0) 2 (sp_1 (4 : Int32))), fl, (xm_up (xm_up (xm_up (xm_up (xm_up (xm_up (xm_up (xm_up (xm_up (xm_up (xm_up (xm_up (xm_up (xm_up r (7, 2, 0) 4 (some (8, 2, 0))) (9, 2, 0) 0 (some (10, 2, 0))) (7, 2, 0) 5 (some (9, 2, 0))) (7, 2, 0) 6 (some (11, 2, 0))) (9, 2, 6) 0 (some (10, 2, 6))) (11, 2, 0) 0 (some (9, 2, 6))) (9, 2, 7) 0 (some (10, 2, 7))) (11, 2, 0) 1 (some (9, 2, 7))) (9, 2, 8) 0 (some (10, 2, 8))) (11, 2, 0) 2 (some (9, 2, 8))) (9, 2, 9) 0 (some (10, 2, 9))) (11, 2, 0) 3 (some (9, 2, 9))) (7, 2, 0) 7 (some (12, 2, 0))) (9, 2, 2) 0 (some (10, 2, 2)))) R
  refine pg_43_106 (en_ok (t := 4) (s := 0) (by decide +kernel)) (by decide) (by decide) (en_ok (s := 4) (by decide +kernel)) (i := 0) (rfl : (0 : Int32) = nI 0) (by decide) (by decide) ?_
  refine pg_43_107 (y := (1 : Int32)) (lv' := [some (xm_r (7, 2, 0)), some (xm_i (2 : Int32)), some (xm_i (4 : Int32)), some (xm_i (1 : Int32))]) rfl (by decide) rfl ?_
  refine pg_43_110 ?_
  refine pg_43_88 rfl ?_
  refine pg_43_89 ?_
  refine pg_43_90 (fun hc => absurd hc (by decide)) (fun _ => ?_)
  refine pg_43_93 rfl ?_
  refine pg_43_94 (en_ok (by decide +kernel)) rfl ?_
  refine pg_43_97 rfl ?_
  refine pg_43_98 (a := (9, 2, 3)) (en_a (by decide +kernel)) (en_k (by decide +kernel)) ?_
  show xm_G (en 4 L) (d + 1) true 43 101 [some (xm_r (7, 2, 0)), some (xm_i (2 : Int32)), some (xm_i (4 : Int32)), some (xm_i (1 : Int32))] [xm_r (9, 2, 3), xm_i (1 : Int32), xm_r (12, 2, 0)] ((74, 281), (xm_up (xm_up (xm_up fi (7, 2, 0) 0 (2 : Int32)) (7, 2, 0) 1 (4 : Int32)) (8, 2, 0) 2 (sp_1 (4 : Int32))), fl, (xm_up (xm_up (xm_up (xm_up (xm_up (xm_up (xm_up (xm_up (xm_up (xm_up (xm_up (xm_up (xm_up (xm_up (xm_up r (7, 2, 0) 4 (some (8, 2, 0))) (9, 2, 0) 0 (some (10, 2, 0))) (7, 2, 0) 5 (some (9, 2, 0))) (7, 2, 0) 6 (some (11, 2, 0))) (9, 2, 6) 0 (some (10, 2, 6))) (11, 2, 0) 0 (some (9, 2, 6))) (9, 2, 7) 0 (some (10, 2, 7))) (11, 2, 0) 1 (some (9, 2, 7))) (9, 2, 8) 0 (some (10, 2, 8))) (11, 2, 0) 2 (some (9, 2, 8))) (9, 2, 9) 0 (some (10, 2, 9))) (11, 2, 0) 3 (some (9, 2, 9))) (7, 2, 0) 7 (some (12, 2, 0))) (9, 2, 2) 0 (some (10, 2, 2))) (12, 2, 0) 0 (some (9, 2, 2)))) R
  refine pg_43_101 rfl ?_
  refine pg_43_102 rfl ?_
  refine pg_43_103 (Nat.le_of_ble_eq_true rfl) (ct_61 (m := 4) (b := (10, 2, 3)) (rfl : (4 : Int32) = nI 4) (by decide) (en_a (by decide +kernel)) (en_k (by decide +kernel)) (en_ok (by decide +kernel))) ?_
  show xm_G (en 4 L) (d + 1) true 43 106 [some (xm_r (7, 2, 0)), some (xm_i (2 : Int32)), some (xm_i (4 : Int32)), some (xm_i (1 : Int32))] [xm_r (9, 2, 3), xm_i (1 : Int32), xm_r (12, 2, 0)] ((75, 285), (xm_up (xm_up (xm_up fi (7, 2, 0) 0 (2 : Int32)) (7, 2, 0) 1 (4 : Int32)) (8, 2, 0) 2 (sp_1 (4 : Int32))), fl, (xm_up (xm_up (xm_up (xm_up (xm_up (xm_up (xm_up (xm_up (xm_up (xm_up (xm_up (xm_up (xm_up (xm_up (xm_up (xm_up r (7, 2, 0) 4 (some (8, 2, 0))) (9, 2, 0) 0 (some (10, 2, 0))) (7, 2, 0) 5 (some (9, 2, 0))) (7, 2, 0) 6 (some (11, 2, 0))) (9, 2, 6) 0 (some (10, 2, 6))) (11, 2, 0) 0 (some (9, 2, 6))) (9, 2, 7) 0 (some (10, 2, 7))) (11, 2, 0) 1 (some (9, 2, 7))) (9, 2, 8) 0 (some (10, 2, 8))) (11, 2, 0) 2 (some (9, 2, 8))) (9, 2, 9) 0 (some (10, 2, 9))) (11, 2, 0) 3 (some (9, 2, 9))) (7, 2, 0) 7 (some (12, 2, 0))) (9, 2, 2) 0 (some (10, 2, 2))) (12, 2, 0) 0 (some (9, 2, 2))) (9, 2, 3) 0 (some (10, 2, 3)))) R
  refine pg_43_106 (en_ok (t := 4) (s := 0) (by decide +kernel)) (by decide) (by decide) (en_ok (s := 4) (by decide +kernel)) (i := 1) (rfl : (1 : Int32) = nI 1) (by decide) (by decide) ?_
  refine pg_43_107 (y := (2 : Int32)) (lv' := [some (xm_r (7, 2, 0)), some (xm_i (2 : Int32)), some (xm_i (4 : Int32)), some (xm_i (2 : Int32))]) rfl (by decide) rfl ?_
  refine pg_43_110 ?_
  refine pg_43_88 rfl ?_
  refine pg_43_89 ?_
  refine pg_43_90 (fun hc => absurd hc (by decide)) (fun _ => ?_)
  refine pg_43_93 rfl ?_
  refine pg_43_94 (en_ok (by decide +kernel)) rfl ?_
  refine pg_43_97 rfl ?_
  refine pg_43_98 (a := (9, 2, 4)) (en_a (by decide +kernel)) (en_k (by decide +kernel)) ?_
  show xm_G (en 4 L) (d + 1) true 43 101 [some (xm_r (7, 2, 0)), some (xm_i (2 : Int32)), some (xm_i (4 : Int32)), some (xm_i (2 : Int32))] [xm_r (9, 2, 4), xm_i (2 : Int32), xm_r (12, 2, 0)] ((76, 287), (xm_up (xm_up (xm_up fi (7, 2, 0) 0 (2 : Int32)) (7, 2, 0) 1 (4 : Int32)) (8, 2, 0) 2 (sp_1 (4 : Int32))), fl, (xm_up (xm_up (xm_up (xm_up (xm_up (xm_up (xm_up (xm_up (xm_up (xm_up (xm_up (xm_up (xm_up (xm_up (xm_up (xm_up (xm_up r (7, 2, 0) 4 (some (8, 2, 0))) (9, 2, 0) 0 (some (10, 2, 0))) (7, 2, 0) 5 (some (9, 2, 0))) (7, 2, 0) 6 (some (11, 2, 0))) (9, 2, 6) 0 (some (10, 2, 6))) (11, 2, 0) 0 (some (9, 2, 6))) (9, 2, 7) 0 (some (10, 2, 7))) (11, 2, 0) 1 (some (9, 2, 7))) (9, 2, 8) 0 (some (10, 2, 8))) (11, 2, 0) 2 (some (9, 2, 8))) (9, 2, 9) 0 (some (10, 2, 9))) (11, 2, 0) 3 (some (9, 2, 9))) (7, 2, 0) 7 (some (12, 2, 0))) (9, 2, 2) 0 (some (10, 2, 2))) (12, 2, 0) 0 (some (9, 2, 2))) (9, 2, 3) 0 (some (10, 2, 3))) (12, 2, 0) 1 (some (9, 2, 3)))) R
  refine pg_43_101 rfl ?_
  refine pg_43_102 rfl ?_
  refine pg_43_103 (Nat.le_of_ble_eq_true rfl) (ct_61 (m := 4) (b := (10, 2, 4)) (rfl : (4 : Int32) = nI 4) (by decide) (en_a (by decide +kernel)) (en_k (by decide +kernel)) (en_ok (by decide +kernel))) ?_
  show xm_G (en 4 L) (d + 1) true 43 106 [some (xm_r (7, 2, 0)), some (xm_i (2 : Int32)), some (xm_i (4 : Int32)), some (xm_i (2 : Int32))] [xm_r (9, 2, 4), xm_i (2 : Int32), xm_r (12, 2, 0)] ((77, 291), (xm_up (xm_up (xm_up fi (7, 2, 0) 0 (2 : Int32)) (7, 2, 0) 1 (4 : Int32)) (8, 2, 0) 2 (sp_1 (4 : Int32))), fl, (xm_up (xm_up (xm_up (xm_up (xm_up (xm_up (xm_up (xm_up (xm_up (xm_up (xm_up (xm_up (xm_up (xm_up (xm_up (xm_up (xm_up (xm_up r (7, 2, 0) 4 (some (8, 2, 0))) (9, 2, 0) 0 (some (10, 2, 0))) (7, 2, 0) 5 (some (9, 2, 0))) (7, 2, 0) 6 (some (11, 2, 0))) (9, 2, 6) 0 (some (10, 2, 6))) (11, 2, 0) 0 (some (9, 2, 6))) (9, 2, 7) 0 (some (10, 2, 7))) (11, 2, 0) 1 (some (9, 2, 7))) (9, 2, 8) 0 (some (10, 2, 8))) (11, 2, 0) 2 (some (9, 2, 8))) (9, 2, 9) 0 (some (10, 2, 9))) (11, 2, 0) 3 (some (9, 2, 9))) (7, 2, 0) 7 (some (12, 2, 0))) (9, 2, 2) 0 (some (10, 2, 2))) (12, 2, 0) 0 (some (9, 2, 2))) (9, 2, 3) 0 (some (10, 2, 3))) (12, 2, 0) 1 (some (9, 2, 3))) (9, 2, 4) 0 (some (10, 2, 4)))) R
  refine pg_43_106 (en_ok (t := 4) (s := 0) (by decide +kernel)) (by decide) (by decide) (en_ok (s := 4) (by decide +kernel)) (i := 2) (rfl : (2 : Int32) = nI 2) (by decide) (by decide) ?_
  refine pg_43_107 (y := (3 : Int32)) (lv' := [some (xm_r (7, 2, 0)), some (xm_i (2 : Int32)), some (xm_i (4 : Int32)), some (xm_i (3 : Int32))]) rfl (by decide) rfl ?_
  refine pg_43_110 ?_
  refine pg_43_88 rfl ?_
  refine pg_43_89 ?_
  refine pg_43_90 (fun hc => absurd hc (by decide)) (fun _ => ?_)
  refine pg_43_93 rfl ?_
  refine pg_43_94 (en_ok (by decide +kernel)) rfl ?_
  refine pg_43_97 rfl ?_
  refine pg_43_98 (a := (9, 2, 5)) (en_a (by decide +kernel)) (en_k (by decide +kernel)) ?_
  show xm_G (en 4 L) (d + 1) true 43 101 [some (xm_r (7, 2, 0)), some (xm_i (2 : Int32)), some (xm_i (4 : Int32)), some (xm_i (3 : Int32))] [xm_r (9, 2, 5), xm_i (3 : Int32), xm_r (12, 2, 0)] ((78, 293), (xm_up (xm_up (xm_up fi (7, 2, 0) 0 (2 : Int32)) (7, 2, 0) 1 (4 : Int32)) (8, 2, 0) 2 (sp_1 (4 : Int32))), fl, (xm_up (xm_up (xm_up (xm_up (xm_up (xm_up (xm_up (xm_up (xm_up (xm_up (xm_up (xm_up (xm_up (xm_up (xm_up (xm_up (xm_up (xm_up (xm_up r (7, 2, 0) 4 (some (8, 2, 0))) (9, 2, 0) 0 (some (10, 2, 0))) (7, 2, 0) 5 (some (9, 2, 0))) (7, 2, 0) 6 (some (11, 2, 0))) (9, 2, 6) 0 (some (10, 2, 6))) (11, 2, 0) 0 (some (9, 2, 6))) (9, 2, 7) 0 (some (10, 2, 7))) (11, 2, 0) 1 (some (9, 2, 7))) (9, 2, 8) 0 (some (10, 2, 8))) (11, 2, 0) 2 (some (9, 2, 8))) (9, 2, 9) 0 (some (10, 2, 9))) (11, 2, 0) 3 (some (9, 2, 9))) (7, 2, 0) 7 (some (12, 2, 0))) (9, 2, 2) 0 (some (10, 2, 2))) (12, 2, 0) 0 (some (9, 2, 2))) (9, 2, 3) 0 (some (10, 2, 3))) (12, 2, 0) 1 (some (9, 2, 3))) (9, 2, 4) 0 (some (10, 2, 4))) (12, 2, 0) 2 (some (9, 2, 4)))) R
  refine pg_43_101 rfl ?_
  refine pg_43_102 rfl ?_
  refine pg_43_103 (Nat.le_of_ble_eq_true rfl) (ct_61 (m := 4) (b := (10, 2, 5)) (rfl : (4 : Int32) = nI 4) (by decide) (en_a (by decide +kernel)) (en_k (by decide +kernel)) (en_ok (by decide +kernel))) ?_
  show xm_G (en 4 L) (d + 1) true 43 106 [some (xm_r (7, 2, 0)), some (xm_i (2 : Int32)), some (xm_i (4 : Int32)), some (xm_i (3 : Int32))] [xm_r (9, 2, 5), xm_i (3 : Int32), xm_r (12, 2, 0)] ((79, 297), (xm_up (xm_up (xm_up fi (7, 2, 0) 0 (2 : Int32)) (7, 2, 0) 1 (4 : Int32)) (8, 2, 0) 2 (sp_1 (4 : Int32))), fl, (xm_up (xm_up (xm_up (xm_up (xm_up (xm_up (xm_up (xm_up (xm_up (xm_up (xm_up (xm_up (xm_up (xm_up (xm_up (xm_up (xm_up (xm_up (xm_up (xm_up r (7, 2, 0) 4 (some (8, 2, 0))) (9, 2, 0) 0 (some (10, 2, 0))) (7, 2, 0) 5 (some (9, 2, 0))) (7, 2, 0) 6 (some (11, 2, 0))) (9, 2, 6) 0 (some (10, 2, 6))) (11, 2, 0) 0 (some (9, 2, 6))) (9, 2, 7) 0 (some (10, 2, 7))) (11, 2, 0) 1 (some (9, 2, 7))) (9, 2, 8) 0 (some (10, 2, 8))) (11, 2, 0) 2 (some (9, 2, 8))) (9, 2, 9) 0 (some (10, 2, 9))) (11, 2, 0) 3 (some (9, 2, 9))) (7, 2, 0) 7 (some (12, 2, 0))) (9, 2, 2) 0 (some (10, 2, 2))) (12, 2, 0) 0 (some (9, 2, 2))) (9, 2, 3) 0 (some (10, 2, 3))) (12, 2, 0) 1 (some (9, 2, 3))) (9, 2, 4) 0 (some (10, 2, 4))) (12, 2, 0) 2 (some (9, 2, 4))) (9, 2, 5) 0 (some (10, 2, 5)))) R
  refine pg_43_106 (en_ok (t := 4) (s := 0) (by decide +kernel)) (by decide) (by decide) (en_ok (s := 4) (by decide +kernel)) (i := 3) (rfl : (3 : Int32) = nI 3) (by decide) (by decide) ?_
  refine pg_43_107 (y := (4 : Int32)) (lv' := [some (xm_r (7, 2, 0)), some (xm_i (2 : Int32)), some (xm_i (4 : Int32)), some (xm_i (4 : Int32))]) rfl (by decide) rfl ?_
  refine pg_43_110 ?_
  refine pg_43_88 rfl ?_
  refine pg_43_89 ?_
  refine pg_43_90 (fun _ => ?_) (fun hc => absurd (by decide) hc)
  refine pg_43_113 rfl ?_
  refine pg_43_114 (a := (9, 2, 1)) (en_a (by decide +kernel)) (en_k (by decide +kernel)) ?_
  show xm_G (en 4 L) (d + 1) true 43 117 [some (xm_r (7, 2, 0)), some (xm_i (2 : Int32)), some (xm_i (4 : Int32)), some (xm_i (4 : Int32))] [xm_r (9, 2, 1), xm_r (7, 2, 0)] ((80, 299), (xm_up (xm_up (xm_up fi (7, 2, 0) 0 (2 : Int32)) (7, 2, 0) 1 (4 : Int32)) (8, 2, 0) 2 (sp_1 (4 : Int32))), fl, (xm_up (xm_up (xm_up (xm_up (xm_up (xm_up (xm_up (xm_up (xm_up (xm_up (xm_up (xm_up (xm_up (xm_up (xm_up (xm_up (xm_up (xm_up (xm_up (xm_up (xm_up r (7, 2, 0) 4 (some (8, 2, 0))) (9, 2, 0) 0 (some (10, 2, 0))) (7, 2, 0) 5 (some (9, 2, 0))) (7, 2, 0) 6 (some (11, 2, 0))) (9, 2, 6) 0 (some (10, 2, 6))) (11, 2, 0) 0 (some (9, 2, 6))) (9, 2, 7) 0 (some (10, 2, 7))) (11, 2, 0) 1 (some (9, 2, 7))) (9, 2, 8) 0 (some (10, 2, 8))) (11, 2, 0) 2 (some (9, 2, 8))) (9, 2, 9) 0 (some (10, 2, 9))) (11, 2, 0) 3 (some (9, 2, 9))) (7, 2, 0) 7 (some (12, 2, 0))) (9, 2, 2) 0 (some (10, 2, 2))) (12, 2, 0) 0 (some (9, 2, 2))) (9, 2, 3) 0 (some (10, 2, 3))) (12, 2, 0) 1 (some (9, 2, 3))) (9, 2, 4) 0 (some (10, 2, 4))) (12, 2, 0) 2 (some (9, 2, 4))) (9, 2, 5) 0 (some (10, 2, 5))) (12, 2, 0) 3 (some (9, 2, 5)))) R
  refine pg_43_117 rfl ?_
  refine pg_43_118 rfl ?_
  refine pg_43_119 (Nat.le_of_ble_eq_true rfl) (ct_61 (m := 4) (b := (10, 2, 1)) (rfl : (4 : Int32) = nI 4) (by decide) (en_a (by decide +kernel)) (en_k (by decide +kernel)) (en_ok (by decide +kernel))) ?_
  show xm_G (en 4 L) (d + 1) true 43 122 [some (xm_r (7, 2, 0)), some (xm_i (2 : Int32)), some (xm_i (4 : Int32)), some (xm_i (4 : Int32))] [xm_r (9, 2, 1), xm_r (7, 2, 0)] ((81, 303), (xm_up (xm_up (xm_up fi (7, 2, 0) 0 (2 : Int32)) (7, 2, 0) 1 (4 : Int32)) (8, 2, 0) 2 (sp_1 (4 : Int32))), fl, (xm_up (xm_up (xm_up (xm_up (xm_up (xm_up (xm_up (xm_up (xm_up (xm_up (xm_up (xm_up (xm_up (xm_up (xm_up (xm_up (xm_up (xm_up (xm_up (xm_up (xm_up (xm_up r (7, 2, 0) 4 (some (8, 2, 0))) (9, 2, 0) 0 (some (10, 2, 0))) (7, 2, 0) 5 (some (9, 2, 0))) (7, 2, 0) 6 (some (11, 2, 0))) (9, 2, 6) 0 (some (10, 2, 6))) (11, 2, 0) 0 (some (9, 2, 6))) (9, 2, 7) 0 (some (10, 2, 7))) (11, 2, 0) 1 (some (9, 2, 7))) (9, 2, 8) 0 (some (10, 2, 8))) (11, 2, 0) 2 (some (9, 2, 8))) (9, 2, 9) 0 (some (10, 2, 9))) (11, 2, 0) 3 (some (9, 2, 9))) (7, 2, 0) 7 (some (12, 2, 0))) (9, 2, 2) 0 (some (10, 2, 2))) (12, 2, 0) 0 (some (9, 2, 2))) (9, 2, 3) 0 (some (10, 2, 3))) (12, 2, 0) 1 (some (9, 2, 3))) (9, 2, 4) 0 (some (10, 2, 4))) (12, 2, 0) 2 (some (9, 2, 4))) (9, 2, 5) 0 (some (10, 2, 5))) (12, 2, 0) 3 (some (9, 2, 5))) (9, 2, 1) 0 (some (10, 2, 1)))) R
  refine pg_43_122 (en_ok (by decide +kernel)) ?_
  refine pg_43_125 rfl ?_
  refine pg_43_126 rfl ?_
  refine pg_43_127 (n := 4) (rfl : (4 : Int32) = nI 4) (by decide) (en_a (a := (13, 2, 0)) (by decide +kernel)) (en_k (by decide +kernel)) ?_
  show xm_G (en 4 L) (d + 1) true 43 129 [some (xm_r (7, 2, 0)), some (xm_i (2 : Int32)), some (xm_i (4 : Int32)), some (xm_i (4 : Int32))] [xm_r (13, 2, 0), xm_r (7, 2, 0)] ((82, 307), (xm_up (xm_up (xm_up fi (7, 2, 0) 0 (2 : Int32)) (7, 2, 0) 1 (4 : Int32)) (8, 2, 0) 2 (sp_1 (4 : Int32))), fl, (xm_up (xm_up (xm_up (xm_up (xm_up (xm_up (xm_up (xm_up (xm_up (xm_up (xm_up (xm_up (xm_up (xm_up (xm_up (xm_up (xm_up (xm_up (xm_up (xm_up (xm_up (xm_up (xm_up r (7, 2, 0) 4 (some (8, 2, 0))) (9, 2, 0) 0 (some (10, 2, 0))) (7, 2, 0) 5 (some (9, 2, 0))) (7, 2, 0) 6 (some (11, 2, 0))) (9, 2, 6) 0 (some (10, 2, 6))) (11, 2, 0) 0 (some (9, 2, 6))) (9, 2, 7) 0 (some (10, 2, 7))) (11, 2, 0) 1 (some (9, 2, 7))) (9, 2, 8) 0 (some (10, 2, 8))) (11, 2, 0) 2 (some (9, 2, 8))) (9, 2, 9) 0 (some (10, 2, 9))) (11, 2, 0) 3 (some (9, 2, 9))) (7, 2, 0) 7 (some (12, 2, 0))) (9, 2, 2) 0 (some (10, 2, 2))) (12, 2, 0) 0 (some (9, 2, 2))) (9, 2, 3) 0 (some (10, 2, 3))) (12, 2, 0) 1 (some (9, 2, 3))) (9, 2, 4) 0 (some (10, 2, 4))) (12, 2, 0) 2 (some (9, 2, 4))) (9, 2, 5) 0 (some (10, 2, 5))) (12, 2, 0) 3 (some (9, 2, 5))) (9, 2, 1) 0 (some (10, 2, 1))) (7, 2, 0) 8 (some (9, 2, 1)))) R
  refine pg_43_129 (en_ok (by decide +kernel)) ?_
  exact go_eq hR.symm (pg_43_132)
def cf_43_4_3 (fi : FI) : FI := (xm_up (xm_up (xm_up fi (7, 3, 0) 0 (3 : Int32)) (7, 3, 0) 1 (4 : Int32)) (8, 3, 0) 2 (sp_1 (4 : Int32)))
def cr_43_4_3 (r : xm_I → Nat → Option xm_I) : xm_I → Nat → Option xm_I := (xm_up (xm_up (xm_up (xm_up (xm_up (xm_up (xm_up (xm_up (xm_up (xm_up (xm_up (xm_up (xm_up (xm_up (xm_up (xm_up (xm_up (xm_up (xm_up (xm_up (xm_up (xm_up (xm_up (xm_up r (7, 3, 0) 4 (some (8, 3, 0))) (9, 3, 0) 0 (some (10, 3, 0))) (7, 3, 0) 5 (some (9, 3, 0))) (7, 3, 0) 6 (some (11, 3, 0))) (9, 3, 6) 0 (some (10, 3, 6))) (11, 3, 0) 0 (some (9, 3, 6))) (9, 3, 7) 0 (some (10, 3, 7))) (11, 3, 0) 1 (some (9, 3, 7))) (9, 3, 8) 0 (some (10, 3, 8))) (11, 3, 0) 2 (some (9, 3, 8))) (9, 3, 9) 0 (some (10, 3, 9))) (11, 3, 0) 3 (some (9, 3, 9))) (7, 3, 0) 7 (some (12, 3, 0))) (9, 3, 2) 0 (some (10, 3, 2))) (12, 3, 0) 0 (some (9, 3, 2))) (9, 3, 3) 0 (some (10, 3, 3))) (12, 3, 0) 1 (some (9, 3, 3))) (9, 3, 4) 0 (some (10, 3, 4))) (12, 3, 0) 2 (some (9, 3, 4))) (9, 3, 5) 0 (some (10, 3, 5))) (12, 3, 0) 3 (some (9, 3, 5))) (9, 3, 1) 0 (some (10, 3, 1))) (7, 3, 0) 8 (some (9, 3, 1))) (7, 3, 0) 9 (some (13, 3, 0)))
set_option maxRecDepth 8000 in
theorem ct_43_4_3 {L : Nat} {fi : FI} {fl : FL} {r : xm_I → Nat → Option xm_I} {d : Nat} : xm_C (en 4 L) (d + 2) true 43 [xm_r (7, 3, 0), xm_i (3 : Int32), xm_i (4 : Int32)] ((83, 320), fi, fl, r) (.inl none, ((107, 396), cf_43_4_3 fi, fl, cr_43_4_3 r)) := by
  suffices key : ∀ (E : xm_E) (R : xm_O), E = en 4 L → ((.inl none, ((107, 396), cf_43_4_3 fi, fl, cr_43_4_3 r)) : xm_O) = R → xm_G (en 4 L) (d + 1) true 43 0 [some (xm_r (7, 3, 0)), some (xm_i (3 : Int32)), some (xm_i (4 : Int32)), none] [] ((83, 320), fi, fl, r) R from go_inr (by decide) (Nat.le_of_ble_eq_true rfl) (key _ _ rfl rfl)
  intro E R hE hR
  refine pg_43_0 rfl ?_
  refine pg_43_1 (Nat.le_of_ble_eq_true rfl) ?_
  refine pg_43_4 rfl ?_
  refine pg_43_5 rfl ?_
  refine pg_43_6 (en_ok (by decide +kernel)) ?_
  refine pg_43_9 rfl ?_
  refine pg_43_10 rfl ?_
  refine pg_43_11 (en_ok (by decide +kernel)) ?_
  refine pg_43_14 rfl ?_
  refine pg_43_15 ?_
  refine pg_43_16 (n := 4) (rfl : (4 : Int32) = nI 4) (by decide) (en_a (a := (8, 3, 0)) (by decide +kernel)) (en_k (by decide +kernel)) ?_
  show xm_G (en 4 L) (d + 1) true 43 18 [some (xm_r (7, 3, 0)), some (xm_i (3 : Int32)), some (xm_i (4 : Int32)), none] [xm_r (8, 3, 0), xm_r (7, 3, 0)] ((84, 324), (xm_up (xm_up fi (7, 3, 0) 0 (3 : Int32)) (7, 3, 0) 1 (4 : Int32)), fl, r) R
  refine pg_43_18 (en_ok (by decide +kernel)) ?_
  refine pg_43_21 rfl ?_
  refine pg_43_22 (en_ok (by decide +kernel)) rfl ?_
  refine pg_43_25 ?_
  refine pg_43_26 rfl ?_
  refine pg_43_27 (Nat.le_of_ble_eq_true rfl) (ct_1 (x := (4 : Int32))) ?_
  refine pg_43_30 (en_ok (s := 4) (by decide +kernel)) (i := 2) (rfl : (2 : Int32) = nI 2) (by omega) (by omega) ?_
  refine pg_43_31 rfl ?_
  refine pg_43_32 (a := (9, 3, 0)) (en_a (by decide +kernel)) (en_k (by decide +kernel)) ?_
  show xm_G (en 4 L) (d + 1) true 43 35 [some (xm_r (7, 3, 0)), some (xm_i (3 : Int32)), some (xm_i (4 : Int32)), none] [xm_r (9, 3, 0), xm_r (7, 3, 0)] ((85, 326), (xm_up (xm_up (xm_up fi (7, 3, 0) 0 (3 : Int32)) (7, 3, 0) 1 (4 : Int32)) (8, 3, 0) 2 (sp_1 (4 : Int32))), fl, (xm_up r (7, 3, 0) 4 (some (8, 3, 0)))) R
  refine pg_43_35 rfl ?_
  refine pg_43_36 rfl ?_
  refine pg_43_37 (Nat.le_of_ble_eq_true rfl) (ct_61 (m := 4) (b := (10, 3, 0)) (rfl : (4 : Int32) = nI 4) (by decide) (en_a (by decide +kernel)) (en_k (by decide +kernel)) (en_ok (by decide +kernel))) ?_
  show xm_G (en 4 L) (d + 1) true 43 40 [some (xm_r (7, 3, 0)), some (xm_i (3 : Int32)), some (xm_i (4 : Int32)), none] [xm_r (9, 3, 0), xm_r (7, 3, 0)] ((86, 330), (xm_up (xm_up (xm_up fi (7, 3, 0) 0 (3 : Int32)) (7, 3, 0) 1 (4 : Int32)) (8, 3, 0) 2 (sp_1 (4 : Int32))), fl, (xm_up (xm_up r (7, 3, 0) 4 (some (8, 3, 0))) (9, 3, 0) 0 (some (10, 3, 0)))) R
  refine pg_43_40 (en_ok (by decide +kernel)) ?_
  refine pg_43_43 rfl ?_
  refine pg_43_44 rfl ?_
  refine pg_43_45 (n := 4) (rfl : (4 : Int32) = nI 4) (by decide) (en_a (a := (11, 3, 0)) (by decide +kernel)) (en_k (by decide +kernel)) ?_
  show xm_G (en 4 L) (d + 1) true 43 48 [some (xm_r (7, 3, 0)), some (xm_i (3 : Int32)), some (xm_i (4 : Int32)), none] [xm_r (11, 3, 0), xm_r (7, 3, 0)] ((87, 334), (xm_up (xm_up (xm_up fi (7, 3, 0) 0 (3 : Int32)) (7, 3, 0) 1 (4 : Int32)) (8, 3, 0) 2 (sp_1 (4 : Int32))), fl, (xm_up (xm_up (xm_up r (7, 3, 0) 4 (some (8, 3, 0))) (9, 3, 0) 0 (some (10, 3, 0))) (7, 3, 0) 5 (some (9, 3, 0)))) R
  refine pg_43_48 (en_ok (by decide +kernel)) ?_
  refine pg_43_51 ?_
  refine pg_43_52 (lv' := [some (xm_r (7, 3, 0)), some (xm_i (3 : Int32)), some (xm_i (4 : Int32)), some (xm_i (0 : Int32))]) rfl ?_
  refine pg_43_53 rfl ?_
  refine pg_43_54 rfl ?_
  refine pg_43_55 (fun hc => absurd hc (by decide)) (fun _ => ?_)
  refine pg_43_58 rfl ?_
  refine pg_43_59 (en_ok (by decide +kernel)) rfl ?_
  refine pg_43_62 rfl ?_
  refine pg_43_63 (a := (9, 3, 6)) (en_a (by decide +kernel)) (en_k (by decide +kernel)) ?_
  show xm_G (en 4 L) (d + 1) true 43 66 [some (xm_r (7, 3, 0)), some (xm_i (3 : Int32)), some (xm_i (4 : Int32)), some (xm_i (0 : Int32))] [xm_r (9, 3, 6), xm_i (0 : Int32), xm_r (11, 3, 0)] ((88, 336), (xm_up (xm_up (xm_up fi (7, 3, 0) 0 (3 : Int32)) (7, 3, 0) 1 (4 : Int32)) (8, 3, 0) 2 (sp_1 (4 : Int32))), fl, (xm_up (xm_up (xm_up (xm_up r (7, 3, 0) 4 (some (8, 3, 0))) (9, 3, 0) 0 (some (10, 3, 0))) (7, 3, 0) 5 (some (9, 3, 0))) (7, 3, 0) 6 (some (11, 3, 0)))) R
  refine pg_43_66 rfl ?_
  refine pg_43_67 rfl ?_
  refine pg_43_68 (Nat.le_of_ble_eq_true rfl) (ct_61 (m := 4) (b := (10, 3, 6)) (rfl : (4 : Int32) = nI 4) (by decide) (en_a (by decide +kernel)) (en_k (by decide +kernel)) (en_ok (by decide +kernel))) ?_
  show xm_G (en 4 L) (d + 1) true 43 71 [some (xm_r (7, 3, 0)), some (xm_i (3 : Int32)), some (xm_i (4 : Int32)), some (xm_i (0 : Int32))] [xm_r (9, 3, 6), xm_i (0 : Int32), xm_r (11, 3, 0)] ((89, 340), (xm_up (xm_up (xm_up fi (7, 3, 0) 0 (3 : Int32)) (7, 3, 0) 1 (4 : Int32)) (8, 3, 0) 2 (sp_1 (4 : Int32))), fl, (xm_up (xm_up (xm_up (xm_up (xm_up r (7, 3, 0) 4 (some (8, 3, 0))) (9, 3, 0) 0 (some (10, 3, 0))) (7, 3, 0) 5 (some (9, 3, 0))) (7, 3, 0) 6 (some (11, 3, 0))) (9, 3, 6) 0 (some (10, 3, 6)))) R
  refine pg_43_71 (en_ok (t := 4) (s := 0) (by decide +kernel)) (by decide) (by decide) (en_ok (s := 4) (by decide +kernel)) (i := 0) (rfl : (0 : Int32) = nI 0) (by decide) (by decide) ?_
  refine pg_43_72 (y := (1 : Int32)) (lv' := [some (xm_r (7, 3, 0)), some (xm_i (3 : Int32)), some (xm_i (4 : Int32)), some (xm_i (1 : Int32))]) rfl (by decide) rfl ?_
  refine pg_43_75 ?_
  refine pg_43_53 rfl ?_
  refine pg_43_54 rfl ?_
  refine pg_43_55 (fun hc => absurd hc (by decide)) (fun _ => ?_)
  refine pg_43_58 rfl ?_
  refine pg_43_59 (en_ok (by decide +kernel)) rfl ?_
  refine pg_43_62 rfl ?_
  refine pg_43_63 (a := (9, 3, 7)) (en_a (by decide +kernel)) (en_k (by decide +kernel)) ?_
  show xm_G (en 4 L) (d + 1) true 43 66 [some (xm_r (7, 3, 0)), some (xm_i (3 : Int32)), some (xm_i (4 : Int32)), some (xm_i (1 : Int32))] [xm_r (9, 3, 7), xm_i (1 : Int32), xm_r (11, 3, 0)] ((90, 342), (xm_up (xm_up (xm_up fi (7, 3, 0) 0 (3 : Int32)) (7, 3, 0) 1 (4 : Int32)) (8, 3, 0) 2 (sp_1 (4 : Int32))), fl, (xm_up (xm_up (xm_up (xm_up (xm_up (xm_up r (7, 3, 0) 4 (some (8, 3, 0))) (9, 3, 0) 0 (some (10, 3, 0))) (7, 3, 0) 5 (some (9, 3, 0))) (7, 3, 0) 6 (some (11, 3, 0))) (9, 3, 6) 0 (some (10, 3, 6))) (11, 3, 0) 0 (some (9, 3, 6)))) R
  refine pg_43_66 rfl ?_
  refine pg_43_67 rfl ?_
  refine pg_43_68 (Nat.le_of_ble_eq_true rfl) (ct_61 (m := 4) (b := (10, 3, 7)) (rfl : (4 : Int32) = nI 4) (by decide) (en_a (by decide +kernel)) (en_k (by decide +kernel)) (en_ok (by decide +kernel))) ?_
  show xm_G (en 4 L) (d + 1) true 43 71 [some (xm_r (7, 3, 0)), some (xm_i (3 : Int32)), some (xm_i (4 : Int32)), some (xm_i (1 : Int32))] [xm_r (9, 3, 7), xm_i (1 : Int32), xm_r (11, 3, 0)] ((91, 346), (xm_up (xm_up (xm_up fi (7, 3, 0) 0 (3 : Int32)) (7, 3, 0) 1 (4 : Int32)) (8, 3, 0) 2 (sp_1 (4 : Int32))), fl, (xm_up (xm_up (xm_up (xm_up (xm_up (xm_up (xm_up r (7, 3, 0) 4 (some (8, 3, 0))) (9, 3, 0) 0 (some (10, 3, 0))) (7, 3, 0) 5 (some (9, 3, 0))) (7, 3, 0) 6 (some (11, 3, 0))) (9, 3, 6) 0 (some (10, 3, 6))) (11, 3, 0) 0 (some (9, 3, 6))) (9, 3, 7) 0 (some (10, 3, 7)))) R
  refine pg_43_71 (en_ok (t := 4) (s := 0) (by decide +kernel)) (by decide) (by decide) (en_ok (s := 4) (by decide +kernel)) (i := 1) (rfl : (1 : Int32) = nI 1) (by decide) (by decide) ?_
  refine pg_43_72 (y := (2 : Int32)) (lv' := [some (xm_r (7, 3, 0)), some (xm_i (3 : Int32)), some (xm_i (4 : Int32)), some (xm_i (2 : Int32))]) rfl (by decide) rfl ?_
  refine pg_43_75 ?_
  refine pg_43_53 rfl ?_
  refine pg_43_54 rfl ?_
  refine pg_43_55 (fun hc => absurd hc (by decide)) (fun _ => ?_)
  refine pg_43_58 rfl ?_
  refine pg_43_59 (en_ok (by decide +kernel)) rfl ?_
  refine pg_43_62 rfl ?_
  refine pg_43_63 (a := (9, 3, 8)) (en_a (by decide +kernel)) (en_k (by decide +kernel)) ?_
  show xm_G (en 4 L) (d + 1) true 43 66 [some (xm_r (7, 3, 0)), some (xm_i (3 : Int32)), some (xm_i (4 : Int32)), some (xm_i (2 : Int32))] [xm_r (9, 3, 8), xm_i (2 : Int32), xm_r (11, 3, 0)] ((92, 348), (xm_up (xm_up (xm_up fi (7, 3, 0) 0 (3 : Int32)) (7, 3, 0) 1 (4 : Int32)) (8, 3, 0) 2 (sp_1 (4 : Int32))), fl, (xm_up (xm_up (xm_up (xm_up (xm_up (xm_up (xm_up (xm_up r (7, 3, 0) 4 (some (8, 3, 0))) (9, 3, 0) 0 (some (10, 3, 0))) (7, 3, 0) 5 (some (9, 3, 0))) (7, 3, 0) 6 (some (11, 3, 0))) (9, 3, 6) 0 (some (10, 3, 6))) (11, 3, 0) 0 (some (9, 3, 6))) (9, 3, 7) 0 (some (10, 3, 7))) (11, 3, 0) 1 (some (9, 3, 7)))) R
  refine pg_43_66 rfl ?_
  refine pg_43_67 rfl ?_
  refine pg_43_68 (Nat.le_of_ble_eq_true rfl) (ct_61 (m := 4) (b := (10, 3, 8)) (rfl : (4 : Int32) = nI 4) (by decide) (en_a (by decide +kernel)) (en_k (by decide +kernel)) (en_ok (by decide +kernel))) ?_
  show xm_G (en 4 L) (d + 1) true 43 71 [some (xm_r (7, 3, 0)), some (xm_i (3 : Int32)), some (xm_i (4 : Int32)), some (xm_i (2 : Int32))] [xm_r (9, 3, 8), xm_i (2 : Int32), xm_r (11, 3, 0)] ((93, 352), (xm_up (xm_up (xm_up fi (7, 3, 0) 0 (3 : Int32)) (7, 3, 0) 1 (4 : Int32)) (8, 3, 0) 2 (sp_1 (4 : Int32))), fl, (xm_up (xm_up (xm_up (xm_up (xm_up (xm_up (xm_up (xm_up (xm_up r (7, 3, 0) 4 (some (8, 3, 0))) (9, 3, 0) 0 (some (10, 3, 0))) (7, 3, 0) 5 (some (9, 3, 0))) (7, 3, 0) 6 (some (11, 3, 0))) (9, 3, 6) 0 (some (10, 3, 6))) (11, 3, 0) 0 (some (9, 3, 6))) (9, 3, 7) 0 (some (10, 3, 7))) (11, 3, 0) 1 (some (9, 3, 7))) (9, 3, 8) 0 (some (10, 3, 8)))) R
  refine pg_43_71 (en_ok (t := 4) (s := 0) (by decide +kernel)) (by decide) (by decide) (en_ok (s := 4) (by decide +kernel)) (i := 2) (rfl : (2 : Int32) = nI 2) (by decide) (by decide) ?_
  refine pg_43_72 (y := (3 : Int32)) (lv' := [some (xm_r (7, 3, 0)), some (xm_i (3 : Int32)), some (xm_i (4 : Int32)), some (xm_i (3 : Int32))]) rfl (by decide) rfl ?_
  refine pg_43_75 ?_
  refine pg_43_53 rfl ?_
  refine pg_43_54 rfl ?_
  refine pg_43_55 (fun hc => absurd hc (by decide)) (fun _ => ?_)
  refine pg_43_58 rfl ?_
  refine pg_43_59 (en_ok (by decide +kernel)) rfl ?_
  refine pg_43_62 rfl ?_
  refine pg_43_63 (a := (9, 3, 9)) (en_a (by decide +kernel)) (en_k (by decide +kernel)) ?_
  show xm_G (en 4 L) (d + 1) true 43 66 [some (xm_r (7, 3, 0)), some (xm_i (3 : Int32)), some (xm_i (4 : Int32)), some (xm_i (3 : Int32))] [xm_r (9, 3, 9), xm_i (3 : Int32), xm_r (11, 3, 0)] ((94, 354), (xm_up (xm_up (xm_up fi (7, 3, 0) 0 (3 : Int32)) (7, 3, 0) 1 (4 : Int32)) (8, 3, 0) 2 (sp_1 (4 : Int32))), fl, (xm_up (xm_up (xm_up (xm_up (xm_up (xm_up (xm_up (xm_up (xm_up (xm_up r (7, 3, 0) 4 (some (8, 3, 0))) (9, 3, 0) 0 (some (10, 3, 0))) (7, 3, 0) 5 (some (9, 3, 0))) (7, 3, 0) 6 (some (11, 3, 0))) (9, 3, 6) 0 (some (10, 3, 6))) (11, 3, 0) 0 (some (9, 3, 6))) (9, 3, 7) 0 (some (10, 3, 7))) (11, 3, 0) 1 (some (9, 3, 7))) (9, 3, 8) 0 (some (10, 3, 8))) (11, 3, 0) 2 (some (9, 3, 8)))) R
  refine pg_43_66 rfl ?_
  refine pg_43_67 rfl ?_
  refine pg_43_68 (Nat.le_of_ble_eq_true rfl) (ct_61 (m := 4) (b := (10, 3, 9)) (rfl : (4 : Int32) = nI 4) (by decide) (en_a (by decide +kernel)) (en_k (by decide +kernel)) (en_ok (by decide +kernel))) ?_
  show xm_G (en 4 L) (d + 1) true 43 71 [some (xm_r (7, 3, 0)), some (xm_i (3 : Int32)), some (xm_i (4 : Int32)), some (xm_i (3 : Int32))] [xm_r (9, 3, 9), xm_i (3 : Int32), xm_r (11, 3, 0)] ((95, 358), (xm_up (xm_up (xm_up fi (7, 3, 0) 0 (3 : Int32)) (7, 3, 0) 1 (4 : Int32)) (8, 3, 0) 2 (sp_1 (4 : Int32))), fl, (xm_up (xm_up (xm_up (xm_up (xm_up (xm_up (xm_up (xm_up (xm_up (xm_up (xm_up r (7, 3, 0) 4 (some (8, 3, 0))) (9, 3, 0) 0 (some (10, 3, 0))) (7, 3, 0) 5 (some (9, 3, 0))) (7, 3, 0) 6 (some (11, 3, 0))) (9, 3, 6) 0 (some (10, 3, 6))) (11, 3, 0) 0 (some (9, 3, 6))) (9, 3, 7) 0 (some (10, 3, 7))) (11, 3, 0) 1 (some (9, 3, 7))) (9, 3, 8) 0 (some (10, 3, 8))) (11, 3, 0) 2 (some (9, 3, 8))) (9, 3, 9) 0 (some (10, 3, 9)))) R
  refine pg_43_71 (en_ok (t := 4) (s := 0) (by decide +kernel)) (by decide) (by decide) (en_ok (s := 4) (by decide +kernel)) (i := 3) (rfl : (3 : Int32) = nI 3) (by decide) (by decide) ?_
  refine pg_43_72 (y := (4 : Int32)) (lv' := [some (xm_r (7, 3, 0)), some (xm_i (3 : Int32)), some (xm_i (4 : Int32)), some (xm_i (4 : Int32))]) rfl (by decide) rfl ?_
  refine pg_43_75 ?_
  refine pg_43_53 rfl ?_
  refine pg_43_54 rfl ?_
  refine pg_43_55 (fun _ => ?_) (fun hc => absurd (by decide) hc)
  refine pg_43_78 rfl ?_
  refine pg_43_79 ?_
  refine pg_43_80 (n := 4) (rfl : (4 : Int32) = nI 4) (by decide) (en_a (a := (12, 3, 0)) (by decide +kernel)) (en_k (by decide +kernel)) ?_
  show xm_G (en 4 L) (d + 1) true 43 83 [some (xm_r (7, 3, 0)), some (xm_i (3 : Int32)), some (xm_i (4 : Int32)), some (xm_i (4 : Int32))] [xm_r (12, 3, 0), xm_r (7, 3, 0)] ((96, 362), (xm_up (xm_up (xm_up fi (7, 3, 0) 0 (3 : Int32)) (7, 3, 0) 1 (4 : Int32)) (8, 3, 0) 2 (sp_1 (4 : Int32))), fl, (xm_up (xm_up (xm_up (xm_up (xm_up (xm_up (xm_up (xm_up (xm_up (xm_up (xm_up (xm_up r (7, 3, 0) 4 (some (8, 3, 0))) (9, 3, 0) 0 (some (10, 3, 0))) (7, 3, 0) 5 (some (9, 3, 0))) (7, 3, 0) 6 (some (11, 3, 0))) (9, 3, 6) 0 (some (10, 3, 6))) (11, 3, 0) 0 (some (9, 3, 6))) (9, 3, 7) 0 (some (10, 3, 7))) (11, 3, 0) 1 (some (9, 3, 7))) (9, 3, 8) 0 (some (10, 3, 8))) (11, 3, 0) 2 (some (9, 3, 8))) (9, 3, 9) 0 (some (10, 3, 9))) (11, 3, 0) 3 (some (9, 3, 9)))) R
  refine pg_43_83 (en_ok (by decide +kernel)) ?_
  refine pg_43_86 ?_
  refine pg_43_87 (lv' := [some (xm_r (7, 3, 0)), some (xm_i (3 : Int32)), some (xm_i (4 : Int32)), some (xm_i (0 : Int32))]) rfl ?_
  refine pg_43_88 rfl ?_
  refine pg_43_89 ?_
  refine pg_43_90 (fun hc => absurd hc (by decide)) (fun _ => ?_)
  refine pg_43_93 rfl ?_
  refine pg_43_94 (en_ok (by decide +kernel)) rfl ?_
  refine pg_43_97 rfl ?_
  refine pg_43_98 (a := (9, 3, 2)) (en_a (by decide +kernel)) (en_k (by decide +kernel)) ?_
  show xm_G (en 4 L) (d + 1) true 43 101 [some (xm_r (7, 3, 0)), some (xm_i (3 : Int32)), some (xm_i (4 : Int32)), some (xm_i (0 : Int32))] [xm_r (9, 3, 2), xm_i (0 : Int32), xm_r (12, 3, 0)] ((97, 364), (xm_up (xm_up (xm_up fi (7, 3, 0) 0 (3 : Int32)) (7, 3, 0) 1 (4 : Int32)) (8, 3, 0) 2 (sp_1 (4 : Int32))), fl, (xm_up (xm_up (xm_up (xm_up (xm_up (xm_up (xm_up (xm_up (xm_up (xm_up (xm_up (xm_up (xm_up r (7, 3, 0) 4 (some (8, 3, 0))) (9, 3, 0) 0 (some (10, 3, 0))) (7, 3, 0) 5 (some (9, 3, 0))) (7, 3, 0) 6 (some (11, 3, 0))) (9, 3, 6) 0 (some (10, 3, 6))) (11, 3, 0) 0 (some (9, 3, 6))) (9, 3, 7) 0 (some (10, 3, 7))) (11, 3, 0) 1 (some (9, 3, 7))) (9, 3, 8) 0 (some (10, 3, 8))) (11, 3, 0) 2 (some (9, 3, 8))) (9, 3, 9) 0 (some (10, 3, 9))) (11, 3, 0) 3 (some (9, 3, 9))) (7, 3, 0) 7 (some (12, 3, 0)))) R
  refine pg_43_101 rfl ?_
  refine pg_43_102 rfl ?_
  refine pg_43_103 (Nat.le_of_ble_eq_true rfl) (ct_61 (m := 4) (b := (10, 3, 2)) (rfl : (4 : Int32) = nI 4) (by decide) (en_a (by decide +kernel)) (en_k (by decide +kernel)) (en_ok (by decide +kernel))) ?_
  show xm_G (en 4 L) (d + 1) true 43 106 [some (xm_r (7, 3, 0)), some (xm_i (3 : Int32)), some (xm_i (4 : Int32)), some (xm_i (0 : Int32))] [xm_r (9, 3, 2), xm_i (0 : Int32), xm_r (12, 3, 0)] ((98, 368), (xm_up (xm_up (xm_up fi (7, 3, 0) 0 (3 : Int32)) (7, 3, 0) 1 (4 : Int32)) (8, 3, 0) 2 (sp_1 (4 : Int32))), fl, (xm_up (xm_up (xm_up (xm_up (xm_up (xm_up (xm_up (xm_up (xm_up (xm_up (xm_up (xm_up (xm_up (xm_up r (7, 3, 0) 4 (some (8, 3, 0))) (9, 3, 0) 0 (some (10, 3, 0))) (7, 3, 0) 5 (some (9, 3, 0))) (7, 3, 0) 6 (some (11, 3, 0))) (9, 3, 6) 0 (some (10, 3, 6))) (11, 3, 0) 0 (some (9, 3, 6))) (9, 3, 7) 0 (some (10, 3, 7))) (11, 3, 0) 1 (some (9, 3, 7))) (9, 3, 8) 0 (some (10, 3, 8))) (11, 3, 0) 2 (some (9, 3, 8))) (9, 3, 9) 0 (some (10, 3, 9))) (11, 3, 0) 3 (some (9, 3, 9))) (7, 3, 0) 7 (some (12, 3, 0))) (9, 3, 2) 0 (some (10, 3, 2)))) R
  refine pg_43_106 (en_ok (t := 4) (s := 0) (by decide +kernel)) (by decide) (by decide) (en_ok (s := 4) (by decide +kernel)) (i := 0) (rfl : (0 : Int32) = nI 0) (by decide) (by decide) ?_
  refine pg_43_107 (y := (1 : Int32)) (lv' := [some (xm_r (7, 3, 0)), some (xm_i (3 : Int32)), some (xm_i (4 : Int32)), some (xm_i (1 : Int32))]) rfl (by decide) rfl ?_
  refine pg_43_110 ?_
  refine pg_43_88 rfl ?_
  refine pg_43_89 ?_
  refine pg_43_90 (fun hc => absurd hc (by decide)) (fun _ => ?_)
  refine pg_43_93 rfl ?_
  refine pg_43_94 (en_ok (by decide +kernel)) rfl ?_
  refine pg_43_97 rfl ?_
  refine pg_43_98 (a := (9, 3, 3)) (en_a (by decide +kernel)) (en_k (by decide +kernel)) ?_
  show xm_G (en 4 L) (d + 1) true 43 101 [some (xm_r (7, 3, 0)), some (xm_i (3 : Int32)), some (xm_i (4 : Int32)), some (xm_i (1 : Int32))] [xm_r (9, 3, 3), xm_i (1 : Int32), xm_r (12, 3, 0)] ((99, 370), (xm_up (xm_up (xm_up fi (7, 3, 0) 0 (3 : Int32)) (7, 3, 0) 1 (4 : Int32)) (8, 3, 0) 2 (sp_1 (4 : Int32))), fl, (xm_up (xm_up (xm_up (xm_up (xm_up (xm_up (xm_up (xm_up (xm_up (xm_up (xm_up (xm_up (xm_up (xm_up (xm_up r (7, 3, 0) 4 (some (8, 3, 0))) (9, 3, 0) 0 (some (10, 3, 0))) (7, 3, 0) 5 (some (9, 3, 0))) (7, 3, 0) 6 (some (11, 3, 0))) (9, 3, 6) 0 (some (10, 3, 6))) (11, 3, 0) 0 (some (9, 3, 6))) (9, 3, 7) 0 (some (10, 3, 7))) (11, 3, 0) 1 (some (9, 3, 7))) (9, 3, 8) 0 (some (10, 3, 8))) (11, 3, 0) 2 (some (9, 3, 8))) (9, 3, 9) 0 (some (10, 3, 9))) (11, 3, 0) 3 (some (9, 3, 9))) (7, 3, 0) 7 (some (12, 3, 0))) (9, 3, 2) 0 (some (10, 3, 2))) (12, 3, 0) 0 (some (9, 3, 2)))) R
  refine pg_43_101 rfl ?_
  refine pg_43_102 rfl ?_
  refine pg_43_103 (Nat.le_of_ble_eq_true rfl) (ct_61 (m := 4) (b := (10, 3, 3)) (rfl : (4 : Int32) = nI 4) (by decide) (en_a (by decide +kernel)) (en_k (by decide +kernel)) (en_ok (by decide +kernel))) ?_
  show xm_G (en 4 L) (d + 1) true 43 106 [some (xm_r (7, 3, 0)), some (xm_i (3 : Int32)), some (xm_i (4 : Int32)), some (xm_i (1 : Int32))] [xm_r (9, 3, 3), xm_i (1 : Int32), xm_r (12, 3, 0)] ((100, 374), (xm_up (xm_up (xm_up fi (7, 3, 0) 0 (3 : Int32)) (7, 3, 0) 1 (4 : Int32)) (8, 3, 0) 2 (sp_1 (4 : Int32))), fl, (xm_up (xm_up (xm_up (xm_up (xm_up (xm_up (xm_up (xm_up (xm_up (xm_up (xm_up (xm_up (xm_up (xm_up (xm_up (xm_up r (7, 3, 0) 4 (some (8, 3, 0))) (9, 3, 0) 0 (some (10, 3, 0))) (7, 3, 0) 5 (some (9, 3, 0))) (7, 3, 0) 6 (some (11, 3, 0))) (9, 3, 6) 0 (some (10, 3, 6))) (11, 3, 0) 0 (some (9, 3, 6))) (9, 3, 7) 0 (some (10, 3, 7))) (11, 3, 0) 1 (some (9, 3, 7))) (9, 3, 8) 0 (some (10, 3, 8))) (11, 3, 0) 2 (some (9, 3, 8))) (9, 3, 9) 0 (some (10, 3, 9))) (11, 3, 0) 3 (some (9, 3, 9))) (7, 3, 0) 7 (some (12, 3, 0))) (9, 3, 2) 0 (some (10, 3, 2))) (12, 3, 0) 0 (some (9, 3, 2))) (9, 3, 3) 0 (some (10, 3, 3)))) R
  refine pg_43_106 (en_ok (t := 4) (s := 0) (by decide +kernel)) (by decide) (by decide) (en_ok (s := 4) (by decide +kernel)) (i := 1) (rfl : (1 : Int32) = nI 1) (by decide) (by decide) ?_
  refine pg_43_107 (y := (2 : Int32)) (lv' := [some (xm_r (7, 3, 0)), some (xm_i (3 : Int32)), some (xm_i (4 : Int32)), some (xm_i (2 : Int32))]) rfl (by decide) rfl ?_
  refine pg_43_110 ?_
  refine pg_43_88 rfl ?_
  refine pg_43_89 ?_
  refine pg_43_90 (fun hc => absurd hc (by decide)) (fun _ => ?_)
  refine pg_43_93 rfl ?_
  refine pg_43_94 (en_ok (by decide +kernel)) rfl ?_
  refine pg_43_97 rfl ?_
  refine pg_43_98 (a := (9, 3, 4)) (en_a (by decide +kernel)) (en_k (by decide +kernel)) ?_
  show xm_G (en 4 L) (d + 1) true 43 101 [some (xm_r (7, 3, 0)), some (xm_i (3 : Int32)), some (xm_i (4 : Int32)), some (xm_i (2 : Int32))] [xm_r (9, 3, 4), xm_i (2 : Int32), xm_r (12, 3, 0)] ((101, 376), (xm_up (xm_up (xm_up fi (7, 3, 0) 0 (3 : Int32)) (7, 3, 0) 1 (4 : Int32)) (8, 3, 0) 2 (sp_1 (4 : Int32))), fl, (xm_up (xm_up (xm_up (xm_up (xm_up (xm_up (xm_up (xm_up (xm_up (xm_up (xm_up (xm_up (xm_up (xm_up (xm_up (xm_up (xm_up r (7, 3, 0) 4 (some (8, 3, 0))) (9, 3, 0) 0 (some (10, 3, 0))) (7, 3, 0) 5 (some (9, 3, 0))) (7, 3, 0) 6 (some (11, 3, 0))) (9, 3, 6) 0 (some (10, 3, 6))) (11, 3, 0) 0 (some (9, 3, 6))) (9, 3, 7) 0 (some (10, 3, 7))) (11, 3, 0) 1 (some (9, 3, 7))) (9, 3, 8) 0 (some (10, 3, 8))) (11, 3, 0) 2 (some (9, 3, 8))) (9, 3, 9) 0 (some (10, 3, 9))) (11, 3, 0) 3 (some (9, 3, 9))) (7, 3, 0) 7 (some (12, 3, 0))) (9, 3, 2) 0 (some (10, 3, 2))) (12, 3, 0) 0 (some (9, 3, 2))) (9, 3, 3) 0 (some (10, 3, 3))) (12, 3, 0) 1 (some (9, 3, 3)))) R
  refine pg_43_101 rfl ?_
  refine pg_43_102 rfl ?_
  refine pg_43_103 (Nat.le_of_ble_eq_true rfl) (ct_61 (m := 4) (b := (10, 3, 4)) (rfl : (4 : Int32) = nI 4) (by decide) (en_a (by decide +kernel)) (en_k (by decide +kernel)) (en_ok (by decide +kernel))) ?_
  show xm_G (en 4 L) (d + 1) true 43 106 [some (xm_r (7, 3, 0)), some (xm_i (3 : Int32)), some (xm_i (4 : Int32)), some (xm_i (2 : Int32))] [xm_r (9, 3, 4), xm_i (2 : Int32), xm_r (12, 3, 0)] ((102, 380), (xm_up (xm_up (xm_up fi (7, 3, 0) 0 (3 : Int32)) (7, 3, 0) 1 (4 : Int32)) (8, 3, 0) 2 (sp_1 (4 : Int32))), fl, (xm_up (xm_up (xm_up (xm_up (xm_up (xm_up (xm_up (xm_up (xm_up (xm_up (xm_up (xm_up (xm_up (xm_up (xm_up (xm_up (xm_up (xm_up r (7, 3, 0) 4 (some (8, 3, 0))) (9, 3, 0) 0 (some (10, 3, 0))) (7, 3, 0) 5 (some (9, 3, 0))) (7, 3, 0) 6 (some (11, 3, 0))) (9, 3, 6) 0 (some (10, 3, 6))) (11, 3, 0) 0 (some (9, 3, 6))) (9, 3, 7) 0 (some (10, 3, 7))) (11, 3, 0) 1 (some (9, 3, 7))) (9, 3, 8) 0 (some (10, 3, 8))) (11, 3, 0) 2 (some (9, 3, 8))) (9, 3, 9) 0 (some (10, 3, 9))) (11, 3, 0) 3 (some (9, 3, 9))) (7, 3, 0) 7 (some (12, 3, 0))) (9, 3, 2) 0 (some (10, 3, 2))) (12, 3, 0) 0 (some (9, 3, 2))) (9, 3, 3) 0 (some (10, 3, 3))) (12, 3, 0) 1 (some (9, 3, 3))) (9, 3, 4) 0 (some (10, 3, 4)))) R
  refine pg_43_106 (en_ok (t := 4) (s := 0) (by decide +kernel)) (by decide) (by decide) (en_ok (s := 4) (by decide +kernel)) (i := 2) (rfl : (2 : Int32) = nI 2) (by decide) (by decide) ?_
  refine pg_43_107 (y := (3 : Int32)) (lv' := [some (xm_r (7, 3, 0)), some (xm_i (3 : Int32)), some (xm_i (4 : Int32)), some (xm_i (3 : Int32))]) rfl (by decide) rfl ?_
  refine pg_43_110 ?_
  refine pg_43_88 rfl ?_
  refine pg_43_89 ?_
  refine pg_43_90 (fun hc => absurd hc (by decide)) (fun _ => ?_)
  refine pg_43_93 rfl ?_
  refine pg_43_94 (en_ok (by decide +kernel)) rfl ?_
  refine pg_43_97 rfl ?_
  refine pg_43_98 (a := (9, 3, 5)) (en_a (by decide +kernel)) (en_k (by decide +kernel)) ?_
  show xm_G (en 4 L) (d + 1) true 43 101 [some (xm_r (7, 3, 0)), some (xm_i (3 : Int32)), some (xm_i (4 : Int32)), some (xm_i (3 : Int32))] [xm_r (9, 3, 5), xm_i (3 : Int32), xm_r (12, 3, 0)] ((103, 382), (xm_up (xm_up (xm_up fi (7, 3, 0) 0 (3 : Int32)) (7, 3, 0) 1 (4 : Int32)) (8, 3, 0) 2 (sp_1 (4 : Int32))), fl, (xm_up (xm_up (xm_up (xm_up (xm_up (xm_up (xm_up (xm_up (xm_up (xm_up (xm_up (xm_up (xm_up (xm_up (xm_up (xm_up (xm_up (xm_up (xm_up r (7, 3, 0) 4 (some (8, 3, 0))) (9, 3, 0) 0 (some (10, 3, 0))) (7, 3, 0) 5 (some (9, 3, 0))) (7, 3, 0) 6 (some (11, 3, 0))) (9, 3, 6) 0 (some (10, 3, 6))) (11, 3, 0) 0 (some (9, 3, 6))) (9, 3, 7) 0 (some (10, 3, 7))) (11, 3, 0) 1 (some (9, 3, 7))) (9, 3, 8) 0 (some (10, 3, 8))) (11, 3, 0) 2 (some (9, 3, 8))) (9, 3, 9) 0 (some (10, 3, 9))) (11, 3, 0) 3 (some (9, 3, 9))) (7, 3, 0) 7 (some (12, 3, 0))) (9, 3, 2) 0 (some (10, 3, 2))) (12, 3, 0) 0 (some (9, 3, 2))) (9, 3, 3) 0 (some (10, 3, 3))) (12, 3, 0) 1 (some (9, 3, 3))) (9, 3, 4) 0 (some (10, 3, 4))) (12, 3, 0) 2 (some (9, 3, 4)))) R
  refine pg_43_101 rfl ?_
  refine pg_43_102 rfl ?_
  refine pg_43_103 (Nat.le_of_ble_eq_true rfl) (ct_61 (m := 4) (b := (10, 3, 5)) (rfl : (4 : Int32) = nI 4) (by decide) (en_a (by decide +kernel)) (en_k (by decide +kernel)) (en_ok (by decide +kernel))) ?_
  show xm_G (en 4 L) (d + 1) true 43 106 [some (xm_r (7, 3, 0)), some (xm_i (3 : Int32)), some (xm_i (4 : Int32)), some (xm_i (3 : Int32))] [xm_r (9, 3, 5), xm_i (3 : Int32), xm_r (12, 3, 0)] ((104, 386), (xm_up (xm_up (xm_up fi (7, 3, 0) 0 (3 : Int32)) (7, 3, 0) 1 (4 : Int32)) (8, 3, 0) 2 (sp_1 (4 : Int32))), fl, (xm_up (xm_up (xm_up (xm_up (xm_up (xm_up (xm_up (xm_up (xm_up (xm_up (xm_up (xm_up (xm_up (xm_up (xm_up (xm_up (xm_up (xm_up (xm_up (xm_up r (7, 3, 0) 4 (some (8, 3, 0))) (9, 3, 0) 0 (some (10, 3, 0))) (7, 3, 0) 5 (some (9, 3, 0))) (7, 3, 0) 6 (some (11, 3, 0))) (9, 3, 6) 0 (some (10, 3, 6))) (11, 3, 0) 0 (some (9, 3, 6))) (9, 3, 7) 0 (some (10, 3, 7))) (11, 3, 0) 1 (some (9, 3, 7))) (9, 3, 8) 0 (some (10, 3, 8))) (11, 3, 0) 2 (some (9, 3, 8))) (9, 3, 9) 0 (some (10, 3, 9))) (11, 3, 0) 3 (some (9, 3, 9))) (7, 3, 0) 7 (some (12, 3, 0))) (9, 3, 2) 0 (some (10, 3, 2))) (12, 3, 0) 0 (some (9, 3, 2))) (9, 3, 3) 0 (some (10, 3, 3))) (12, 3, 0) 1 (some (9, 3, 3))) (9, 3, 4) 0 (some (10, 3, 4))) (12, 3, 0) 2 (some (9, 3, 4))) (9, 3, 5) 0 (some (10, 3, 5)))) R
  refine pg_43_106 (en_ok (t := 4) (s := 0) (by decide +kernel)) (by decide) (by decide) (en_ok (s := 4) (by decide +kernel)) (i := 3) (rfl : (3 : Int32) = nI 3) (by decide) (by decide) ?_
  refine pg_43_107 (y := (4 : Int32)) (lv' := [some (xm_r (7, 3, 0)), some (xm_i (3 : Int32)), some (xm_i (4 : Int32)), some (xm_i (4 : Int32))]) rfl (by decide) rfl ?_
  refine pg_43_110 ?_
  refine pg_43_88 rfl ?_
  refine pg_43_89 ?_
  refine pg_43_90 (fun _ => ?_) (fun hc => absurd (by decide) hc)
  refine pg_43_113 rfl ?_
  refine pg_43_114 (a := (9, 3, 1)) (en_a (by decide +kernel)) (en_k (by decide +kernel)) ?_
  show xm_G (en 4 L) (d + 1) true 43 117 [some (xm_r (7, 3, 0)), some (xm_i (3 : Int32)), some (xm_i (4 : Int32)), some (xm_i (4 : Int32))] [xm_r (9, 3, 1), xm_r (7, 3, 0)] ((105, 388), (xm_up (xm_up (xm_up fi (7, 3, 0) 0 (3 : Int32)) (7, 3, 0) 1 (4 : Int32)) (8, 3, 0) 2 (sp_1 (4 : Int32))), fl, (xm_up (xm_up (xm_up (xm_up (xm_up (xm_up (xm_up (xm_up (xm_up (xm_up (xm_up (xm_up (xm_up (xm_up (xm_up (xm_up (xm_up (xm_up (xm_up (xm_up (xm_up r (7, 3, 0) 4 (some (8, 3, 0))) (9, 3, 0) 0 (some (10, 3, 0))) (7, 3, 0) 5 (some (9, 3, 0))) (7, 3, 0) 6 (some (11, 3, 0))) (9, 3, 6) 0 (some (10, 3, 6))) (11, 3, 0) 0 (some (9, 3, 6))) (9, 3, 7) 0 (some (10, 3, 7))) (11, 3, 0) 1 (some (9, 3, 7))) (9, 3, 8) 0 (some (10, 3, 8))) (11, 3, 0) 2 (some (9, 3, 8))) (9, 3, 9) 0 (some (10, 3, 9))) (11, 3, 0) 3 (some (9, 3, 9))) (7, 3, 0) 7 (some (12, 3, 0))) (9, 3, 2) 0 (some (10, 3, 2))) (12, 3, 0) 0 (some (9, 3, 2))) (9, 3, 3) 0 (some (10, 3, 3))) (12, 3, 0) 1 (some (9, 3, 3))) (9, 3, 4) 0 (some (10, 3, 4))) (12, 3, 0) 2 (some (9, 3, 4))) (9, 3, 5) 0 (some (10, 3, 5))) (12, 3, 0) 3 (some (9, 3, 5)))) R
  refine pg_43_117 rfl ?_
  refine pg_43_118 rfl ?_
  refine pg_43_119 (Nat.le_of_ble_eq_true rfl) (ct_61 (m := 4) (b := (10, 3, 1)) (rfl : (4 : Int32) = nI 4) (by decide) (en_a (by decide +kernel)) (en_k (by decide +kernel)) (en_ok (by decide +kernel))) ?_
  show xm_G (en 4 L) (d + 1) true 43 122 [some (xm_r (7, 3, 0)), some (xm_i (3 : Int32)), some (xm_i (4 : Int32)), some (xm_i (4 : Int32))] [xm_r (9, 3, 1), xm_r (7, 3, 0)] ((106, 392), (xm_up (xm_up (xm_up fi (7, 3, 0) 0 (3 : Int32)) (7, 3, 0) 1 (4 : Int32)) (8, 3, 0) 2 (sp_1 (4 : Int32))), fl, (xm_up (xm_up (xm_up (xm_up (xm_up (xm_up (xm_up (xm_up (xm_up (xm_up (xm_up (xm_up (xm_up (xm_up (xm_up (xm_up (xm_up (xm_up (xm_up (xm_up (xm_up (xm_up r (7, 3, 0) 4 (some (8, 3, 0))) (9, 3, 0) 0 (some (10, 3, 0))) (7, 3, 0) 5 (some (9, 3, 0))) (7, 3, 0) 6 (some (11, 3, 0))) (9, 3, 6) 0 (some (10, 3, 6))) (11, 3, 0) 0 (some (9, 3, 6))) (9, 3, 7) 0 (some (10, 3, 7))) (11, 3, 0) 1 (some (9, 3, 7))) (9, 3, 8) 0 (some (10, 3, 8))) (11, 3, 0) 2 (some (9, 3, 8))) (9, 3, 9) 0 (some (10, 3, 9))) (11, 3, 0) 3 (some (9, 3, 9))) (7, 3, 0) 7 (some (12, 3, 0))) (9, 3, 2) 0 (some (10, 3, 2))) (12, 3, 0) 0 (some (9, 3, 2))) (9, 3, 3) 0 (some (10, 3, 3))) (12, 3, 0) 1 (some (9, 3, 3))) (9, 3, 4) 0 (some (10, 3, 4))) (12, 3, 0) 2 (some (9, 3, 4))) (9, 3, 5) 0 (some (10, 3, 5))) (12, 3, 0) 3 (some (9, 3, 5))) (9, 3, 1) 0 (some (10, 3, 1)))) R
  refine pg_43_122 (en_ok (by decide +kernel)) ?_
  refine pg_43_125 rfl ?_
  refine pg_43_126 rfl ?_
  refine pg_43_127 (n := 4) (rfl : (4 : Int32) = nI 4) (by decide) (en_a (a := (13, 3, 0)) (by decide +kernel)) (en_k (by decide +kernel)) ?_
  show xm_G (en 4 L) (d + 1) true 43 129 [some (xm_r (7, 3, 0)), some (xm_i (3 : Int32)), some (xm_i (4 : Int32)), some (xm_i (4 : Int32))] [xm_r (13, 3, 0), xm_r (7, 3, 0)] ((107, 396), (xm_up (xm_up (xm_up fi (7, 3, 0) 0 (3 : Int32)) (7, 3, 0) 1 (4 : Int32)) (8, 3, 0) 2 (sp_1 (4 : Int32))), fl, (xm_up (xm_up (xm_up (xm_up (xm_up (xm_up (xm_up (xm_up (xm_up (xm_up (xm_up (xm_up (xm_up (xm_up (xm_up (xm_up (xm_up (xm_up (xm_up (xm_up (xm_up (xm_up (xm_up r (7, 3, 0) 4 (some (8, 3, 0))) (9, 3, 0) 0 (some (10, 3, 0))) (7, 3, 0) 5 (some (9, 3, 0))) (7, 3, 0) 6 (some (11, 3, 0))) (9, 3, 6) 0 (some (10, 3, 6))) (11, 3, 0) 0 (some (9, 3, 6))) (9, 3, 7) 0 (some (10, 3, 7))) (11, 3, 0) 1 (some (9, 3, 7))) (9, 3, 8) 0 (some (10, 3, 8))) (11, 3, 0) 2 (some (9, 3, 8))) (9, 3, 9) 0 (some (10, 3, 9))) (11, 3, 0) 3 (some (9, 3, 9))) (7, 3, 0) 7 (some (12, 3, 0))) (9, 3, 2) 0 (some (10, 3, 2))) (12, 3, 0) 0 (some (9, 3, 2))) (9, 3, 3) 0 (some (10, 3, 3))) (12, 3, 0) 1 (some (9, 3, 3))) (9, 3, 4) 0 (some (10, 3, 4))) (12, 3, 0) 2 (some (9, 3, 4))) (9, 3, 5) 0 (some (10, 3, 5))) (12, 3, 0) 3 (some (9, 3, 5))) (9, 3, 1) 0 (some (10, 3, 1))) (7, 3, 0) 8 (some (9, 3, 1)))) R
  refine pg_43_129 (en_ok (by decide +kernel)) ?_
  exact go_eq hR.symm (pg_43_132)
def cf_0_4_0 (fi : FI) (x : Int32) (k : Int32) : FI := (cf_43_4_3 (cf_43_4_2 (cf_43_4_1 (cf_43_4_0 (xm_up fi (1, 0, 0) 0 (if k < (1 : Int32) then (3 : Int32) else (if (8 : Int32) < k then (3 : Int32) else k)))))))
def cl_0_4_0 (fl : FL) : FL := (xm_up fl (1, 0, 0) 2 65536)
def cr_0_4_0 (r : xm_I → Nat → Option xm_I) : xm_I → Nat → Option xm_I := (xm_up (xm_up (xm_up (cr_43_4_3 (xm_up (cr_43_4_2 (xm_up (cr_43_4_1 (xm_up (cr_43_4_0 (xm_up (xm_up (cr_36_4_0 (xm_up r (0, 0, 0) 0 (some (1, 0, 0)))) (0, 0, 0) 1 (some (2, 0, 0))) (0, 0, 0) 2 (some (6, 0, 0)))) (6, 0, 0) 0 (some (7, 0, 0)))) (6, 0, 0) 1 (some (7, 1, 0)))) (6, 0, 0) 2 (some (7, 2, 0)))) (6, 0, 0) 3 (some (7, 3, 0))) (9, 6, 0) 0 (some (10, 6, 0))) (0, 0, 0) 3 (some (9, 6, 0)))
set_option maxRecDepth 8000 in
theorem ct_0_4_0 {L : Nat} {fi : FI} {fl : FL} {r : xm_I → Nat → Option xm_I} {d : Nat} {x : Int32} {k : Int32} (hN : (if x < (4 : Int32) then (4 : Int32) else (if (6 : Int32) < x then (4 : Int32) else x)) = (4 : Int32)) : xm_C (en 4 L) (d + 3) true 0 [xm_r (0, 0, 0), xm_i x, xm_i k] ((1, 7), fi, fl, r) (.inl none, ((109, 402), cf_0_4_0 fi x k, cl_0_4_0 fl, cr_0_4_0 r)) := by
  suffices key : ∀ (E : xm_E) (R : xm_O), E = en 4 L → ((.inl none, ((109, 402), cf_0_4_0 fi x k, cl_0_4_0 fl, cr_0_4_0 r)) : xm_O) = R → xm_G (en 4 L) (d + 2) true 0 0 [some (xm_r (0, 0, 0)), some (xm_i x), some (xm_i k), none, none] [] ((1, 7), fi, fl, r) R from go_inr (by decide) (Nat.le_of_ble_eq_true rfl) (key _ _ rfl rfl)
  intro E R hE hR
  refine pg_0_0 rfl ?_
  refine pg_0_1 (Nat.le_of_ble_eq_true rfl) ?_
  refine pg_0_4 rfl ?_
  refine pg_0_5 ?_
  suffices KJ : xm_G (en 4 L) (d + 2) true 0 20 [some (xm_r (0, 0, 0)), some (xm_i x), some (xm_i k), none, none] [xm_i (if x < (4 : Int32) then (4 : Int32) else (if (6 : Int32) < x then (4 : Int32) else x))] ((1, 7), fi, fl, r) R by
    refine pg_0_6 (fun hc1 => ?_) (fun hc2 => ?_)
    · refine pg_0_19 ?_
      repeat rw [if_pos hc1] at KJ
      repeat rw [if_pos hc1]
      exact KJ
    · refine pg_0_9 rfl ?_
      refine pg_0_10 ?_
      refine pg_0_12 (fun hc3 => ?_) (fun hc4 => ?_)
      · refine pg_0_19 ?_
        repeat rw [if_neg hc2] at KJ
        repeat rw [if_pos hc3] at KJ
        repeat rw [if_neg hc2]
        repeat rw [if_pos hc3]
        exact KJ
      · refine pg_0_15 rfl ?_
        refine pg_0_16 ?_
        repeat rw [if_neg hc2] at KJ
        repeat rw [if_neg hc4] at KJ
        repeat rw [if_neg hc2]
        repeat rw [if_neg hc4]
        exact KJ
  refine go_top (y := (4 : Int32)) hN ?_
  refine pg_0_20 (lv' := [some (xm_r (0, 0, 0)), some (xm_i x), some (xm_i k), some (xm_i (4 : Int32)), none]) rfl ?_
  refine pg_0_21 rfl ?_
  refine pg_0_22 (a := (1, 0, 0)) (en_a (by decide +kernel)) (en_k (by decide +kernel)) ?_
  show xm_G (en 4 L) (d + 2) true 0 25 [some (xm_r (0, 0, 0)), some (xm_i x), some (xm_i k), some (xm_i (4 : Int32)), none] [xm_r (1, 0, 0), xm_r (0, 0, 0)] ((2, 12), fi, fl, r) R
  refine pg_0_25 rfl ?_
  refine pg_0_26 rfl ?_
  refine pg_0_27 ?_
  suffices KJ : xm_G (en 4 L) (d + 2) true 0 42 [some (xm_r (0, 0, 0)), some (xm_i x), some (xm_i k), some (xm_i (4 : Int32)), none] [xm_i (if k < (1 : Int32) then (3 : Int32) else (if (8 : Int32) < k then (3 : Int32) else k)), xm_r (1, 0, 0), xm_r (1, 0, 0), xm_r (0, 0, 0)] ((2, 12), fi, fl, r) R by
    refine pg_0_28 (fun hc5 => ?_) (fun hc6 => ?_)
    · refine pg_0_41 ?_
      repeat rw [if_pos hc5] at KJ
      repeat rw [if_pos hc5]
      exact KJ
    · refine pg_0_31 rfl ?_
      refine pg_0_32 ?_
      refine pg_0_34 (fun hc7 => ?_) (fun hc8 => ?_)
      · refine pg_0_41 ?_
        repeat rw [if_neg hc6] at KJ
        repeat rw [if_pos hc7] at KJ
        repeat rw [if_neg hc6]
        repeat rw [if_pos hc7]
        exact KJ
      · refine pg_0_37 rfl ?_
        refine pg_0_38 ?_
        repeat rw [if_neg hc6] at KJ
        repeat rw [if_neg hc8] at KJ
        repeat rw [if_neg hc6]
        repeat rw [if_neg hc8]
        exact KJ
  refine pg_0_42 (Nat.le_of_ble_eq_true rfl) (ct_35 (en_ok (by decide +kernel))) ?_
  show xm_G (en 4 L) (d + 2) true 0 45 [some (xm_r (0, 0, 0)), some (xm_i x), some (xm_i k), some (xm_i (4 : Int32)), none] [xm_r (1, 0, 0), xm_r (0, 0, 0)] ((2, 12), (xm_up fi (1, 0, 0) 0 (if k < (1 : Int32) then (3 : Int32) else (if (8 : Int32) < k then (3 : Int32) else k))), (xm_up fl (1, 0, 0) 2 65536), r) R
  refine pg_0_45 (en_ok (by decide +kernel)) ?_
  refine pg_0_48 rfl ?_
  refine pg_0_49 (a := (2, 0, 0)) (en_a (by decide +kernel)) (en_k (by decide +kernel)) ?_
  show xm_G (en 4 L) (d + 2) true 0 52 [some (xm_r (0, 0, 0)), some (xm_i x), some (xm_i k), some (xm_i (4 : Int32)), none] [xm_r (2, 0, 0), xm_r (0, 0, 0)] ((3, 23), (xm_up fi (1, 0, 0) 0 (if k < (1 : Int32) then (3 : Int32) else (if (8 : Int32) < k then (3 : Int32) else k))), (xm_up fl (1, 0, 0) 2 65536), (xm_up r (0, 0, 0) 0 (some (1, 0, 0)))) R
  refine pg_0_52 rfl ?_
  refine pg_0_53 rfl ?_
  refine pg_0_54 (Nat.le_of_ble_eq_true rfl) (ct_36_4_0) ?_
  show xm_G (en 4 L) (d + 2) true 0 57 [some (xm_r (0, 0, 0)), some (xm_i x), some (xm_i k), some (xm_i (4 : Int32)), none] [xm_r (2, 0, 0), xm_r (0, 0, 0)] ((6, 36), (xm_up fi (1, 0, 0) 0 (if k < (1 : Int32) then (3 : Int32) else (if (8 : Int32) < k then (3 : Int32) else k))), (xm_up fl (1, 0, 0) 2 65536), (cr_36_4_0 (xm_up r (0, 0, 0) 0 (some (1, 0, 0))))) R
  refine pg_0_57 (en_ok (by decide +kernel)) ?_
  refine pg_0_60 rfl ?_
  refine pg_0_61 rfl ?_
  refine pg_0_62 (n := 4) (rfl : (4 : Int32) = nI 4) (by decide) (en_a (a := (6, 0, 0)) (by decide +kernel)) (en_k (by decide +kernel)) ?_
  show xm_G (en 4 L) (d + 2) true 0 65 [some (xm_r (0, 0, 0)), some (xm_i x), some (xm_i k), some (xm_i (4 : Int32)), none] [xm_r (6, 0, 0), xm_r (0, 0, 0)] ((7, 40), (xm_up fi (1, 0, 0) 0 (if k < (1 : Int32) then (3 : Int32) else (if (8 : Int32) < k then (3 : Int32) else k))), (xm_up fl (1, 0, 0) 2 65536), (xm_up (cr_36_4_0 (xm_up r (0, 0, 0) 0 (some (1, 0, 0)))) (0, 0, 0) 1 (some (2, 0, 0)))) R
  refine pg_0_65 (en_ok (by decide +kernel)) ?_
  refine pg_0_68 ?_
  refine pg_0_69 (lv' := [some (xm_r (0, 0, 0)), some (xm_i x), some (xm_i k), some (xm_i (4 : Int32)), some (xm_i (0 : Int32))]) rfl ?_
  refine pg_0_71 rfl ?_
  refine pg_0_73 rfl ?_
  refine pg_0_74 (fun hc => absurd hc (by decide)) (fun _ => ?_)
  refine pg_0_77 rfl ?_
  refine pg_0_78 (en_ok (by decide +kernel)) rfl ?_
  refine pg_0_81 rfl ?_
  refine pg_0_83 (a := (7, 0, 0)) (en_a (by decide +kernel)) (en_k (by decide +kernel)) ?_
  show xm_G (en 4 L) (d + 2) true 0 86 [some (xm_r (0, 0, 0)), some (xm_i x), some (xm_i k), some (xm_i (4 : Int32)), some (xm_i (0 : Int32))] [xm_r (7, 0, 0), xm_i (0 : Int32), xm_r (6, 0, 0)] ((8, 53), (xm_up fi (1, 0, 0) 0 (if k < (1 : Int32) then (3 : Int32) else (if (8 : Int32) < k then (3 : Int32) else k))), (xm_up fl (1, 0, 0) 2 65536), (xm_up (xm_up (cr_36_4_0 (xm_up r (0, 0, 0) 0 (some (1, 0, 0)))) (0, 0, 0) 1 (some (2, 0, 0))) (0, 0, 0) 2 (some (6, 0, 0)))) R
  refine pg_0_86 rfl ?_
  refine pg_0_87 rfl ?_
  refine pg_0_89 rfl ?_
  refine pg_0_90 (Nat.le_of_ble_eq_true rfl) (ct_43_4_0) ?_
  show xm_G (en 4 L) (d + 2) true 0 93 [some (xm_r (0, 0, 0)), some (xm_i x), some (xm_i k), some (xm_i (4 : Int32)), some (xm_i (0 : Int32))] [xm_r (7, 0, 0), xm_i (0 : Int32), xm_r (6, 0, 0)] ((32, 129), (cf_43_4_0 (xm_up fi (1, 0, 0) 0 (if k < (1 : Int32) then (3 : Int32) else (if (8 : Int32) < k then (3 : Int32) else k)))), (xm_up fl (1, 0, 0) 2 65536), (cr_43_4_0 (xm_up (xm_up (cr_36_4_0 (xm_up r (0, 0, 0) 0 (some (1, 0, 0)))) (0, 0, 0) 1 (some (2, 0, 0))) (0, 0, 0) 2 (some (6, 0, 0))))) R
  refine pg_0_93 (en_ok (t := 3) (s := 0) (by decide +kernel)) (by decide) (by decide) (en_ok (s := 4) (by decide +kernel)) (i := 0) (rfl : (0 : Int32) = nI 0) (by decide) (by decide) ?_
  refine pg_0_94 (y := (1 : Int32)) (lv' := [some (xm_r (0, 0, 0)), some (xm_i x), some (xm_i k), some (xm_i (4 : Int32)), some (xm_i (1 : Int32))]) rfl (by decide) rfl ?_
  refine pg_0_97 ?_
  refine pg_0_71 rfl ?_
  refine pg_0_73 rfl ?_
  refine pg_0_74 (fun hc => absurd hc (by decide)) (fun _ => ?_)
  refine pg_0_77 rfl ?_
  refine pg_0_78 (en_ok (by decide +kernel)) rfl ?_
  refine pg_0_81 rfl ?_
  refine pg_0_83 (a := (7, 1, 0)) (en_a (by decide +kernel)) (en_k (by decide +kernel)) ?_
  show xm_G (en 4 L) (d + 2) true 0 86 [some (xm_r (0, 0, 0)), some (xm_i x), some (xm_i k), some (xm_i (4 : Int32)), some (xm_i (1 : Int32))] [xm_r (7, 1, 0), xm_i (1 : Int32), xm_r (6, 0, 0)] ((33, 142), (cf_43_4_0 (xm_up fi (1, 0, 0) 0 (if k < (1 : Int32) then (3 : Int32) else (if (8 : Int32) < k then (3 : Int32) else k)))), (xm_up fl (1, 0, 0) 2 65536), (xm_up (cr_43_4_0 (xm_up (xm_up (cr_36_4_0 (xm_up r (0, 0, 0) 0 (some (1, 0, 0)))) (0, 0, 0) 1 (some (2, 0, 0))) (0, 0, 0) 2 (some (6, 0, 0)))) (6, 0, 0) 0 (some (7, 0, 0)))) R
  refine pg_0_86 rfl ?_
  refine pg_0_87 rfl ?_
  refine pg_0_89 rfl ?_
  refine pg_0_90 (Nat.le_of_ble_eq_true rfl) (ct_43_4_1) ?_
  show xm_G (en 4 L) (d + 2) true 0 93 [some (xm_r (0, 0, 0)), some (xm_i x), some (xm_i k), some (xm_i (4 : Int32)), some (xm_i (1 : Int32))] [xm_r (7, 1, 0), xm_i (1 : Int32), xm_r (6, 0, 0)] ((57, 218), (cf_43_4_1 (cf_43_4_0 (xm_up fi (1, 0, 0) 0 (if k < (1 : Int32) then (3 : Int32) else (if (8 : Int32) < k then (3 : Int32) else k))))), (xm_up fl (1, 0, 0) 2 65536), (cr_43_4_1 (xm_up (cr_43_4_0 (xm_up (xm_up (cr_36_4_0 (xm_up r (0, 0, 0) 0 (some (1, 0, 0)))) (0, 0, 0) 1 (some (2, 0, 0))) (0, 0, 0) 2 (some (6, 0, 0)))) (6, 0, 0) 0 (some (7, 0, 0))))) R
  refine pg_0_93 (en_ok (t := 3) (s := 0) (by decide +kernel)) (by decide) (by decide) (en_ok (s := 4) (by decide +kernel)) (i := 1) (rfl : (1 : Int32) = nI 1) (by decide) (by decide) ?_
  refine pg_0_94 (y := (2 : Int32)) (lv' := [some (xm_r (0, 0, 0)), some (xm_i x), some (xm_i k), some (xm_i (4 : Int32)), some (xm_i (2 : Int32))]) rfl (by decide) rfl ?_
  refine pg_0_97 ?_
  refine pg_0_71 rfl ?_
  refine pg_0_73 rfl ?_
  refine pg_0_74 (fun hc => absurd hc (by decide)) (fun _ => ?_)
  refine pg_0_77 rfl ?_
  refine pg_0_78 (en_ok (by decide +kernel)) rfl ?_
  refine pg_0_81 rfl ?_
  refine pg_0_83 (a := (7, 2, 0)) (en_a (by decide +kernel)) (en_k (by decide +kernel)) ?_
  show xm_G (en 4 L) (d + 2) true 0 86 [some (xm_r (0, 0, 0)), some (xm_i x), some (xm_i k), some (xm_i (4 : Int32)), some (xm_i (2 : Int32))] [xm_r (7, 2, 0), xm_i (2 : Int32), xm_r (6, 0, 0)] ((58, 231), (cf_43_4_1 (cf_43_4_0 (xm_up fi (1, 0, 0) 0 (if k < (1 : Int32) then (3 : Int32) else (if (8 : Int32) < k then (3 : Int32) else k))))), (xm_up fl (1, 0, 0) 2 65536), (xm_up (cr_43_4_1 (xm_up (cr_43_4_0 (xm_up (xm_up (cr_36_4_0 (xm_up r (0, 0, 0) 0 (some (1, 0, 0)))) (0, 0, 0) 1 (some (2, 0, 0))) (0, 0, 0) 2 (some (6, 0, 0)))) (6, 0, 0) 0 (some (7, 0, 0)))) (6, 0, 0) 1 (some (7, 1, 0)))) R
  refine pg_0_86 rfl ?_
  refine pg_0_87 rfl ?_
  refine pg_0_89 rfl ?_
  refine pg_0_90 (Nat.le_of_ble_eq_true rfl) (ct_43_4_2) ?_
  show xm_G (en 4 L) (d + 2) true 0 93 [some (xm_r (0, 0, 0)), some (xm_i x), some (xm_i k), some (xm_i (4 : Int32)), some (xm_i (2 : Int32))] [xm_r (7, 2, 0), xm_i (2 : Int32), xm_r (6, 0, 0)] ((82, 307), (cf_43_4_2 (cf_43_4_1 (cf_43_4_0 (xm_up fi (1, 0, 0) 0 (if k < (1 : Int32) then (3 : Int32) else (if (8 : Int32) < k then (3 : Int32) else k)))))), (xm_up fl (1, 0, 0) 2 65536), (cr_43_4_2 (xm_up (cr_43_4_1 (xm_up (cr_43_4_0 (xm_up (xm_up (cr_36_4_0 (xm_up r (0, 0, 0) 0 (some (1, 0, 0)))) (0, 0, 0) 1 (some (2, 0, 0))) (0, 0, 0) 2 (some (6, 0, 0)))) (6, 0, 0) 0 (some (7, 0, 0)))) (6, 0, 0) 1 (some (7, 1, 0))))) R
  refine pg_0_93 (en_ok (t := 3) (s := 0) (by decide +kernel)) (by decide) (by decide) (en_ok (s := 4) (by decide +kernel)) (i := 2) (rfl : (2 : Int32) = nI 2) (by decide) (by decide) ?_
  refine pg_0_94 (y := (3 : Int32)) (lv' := [some (xm_r (0, 0, 0)), some (xm_i x), some (xm_i k), some (xm_i (4 : Int32)), some (xm_i (3 : Int32))]) rfl (by decide) rfl ?_
  refine pg_0_97 ?_
  refine pg_0_71 rfl ?_
  refine pg_0_73 rfl ?_
  refine pg_0_74 (fun hc => absurd hc (by decide)) (fun _ => ?_)
  refine pg_0_77 rfl ?_
  refine pg_0_78 (en_ok (by decide +kernel)) rfl ?_
  refine pg_0_81 rfl ?_
  refine pg_0_83 (a := (7, 3, 0)) (en_a (by decide +kernel)) (en_k (by decide +kernel)) ?_
  show xm_G (en 4 L) (d + 2) true 0 86 [some (xm_r (0, 0, 0)), some (xm_i x), some (xm_i k), some (xm_i (4 : Int32)), some (xm_i (3 : Int32))] [xm_r (7, 3, 0), xm_i (3 : Int32), xm_r (6, 0, 0)] ((83, 320), (cf_43_4_2 (cf_43_4_1 (cf_43_4_0 (xm_up fi (1, 0, 0) 0 (if k < (1 : Int32) then (3 : Int32) else (if (8 : Int32) < k then (3 : Int32) else k)))))), (xm_up fl (1, 0, 0) 2 65536), (xm_up (cr_43_4_2 (xm_up (cr_43_4_1 (xm_up (cr_43_4_0 (xm_up (xm_up (cr_36_4_0 (xm_up r (0, 0, 0) 0 (some (1, 0, 0)))) (0, 0, 0) 1 (some (2, 0, 0))) (0, 0, 0) 2 (some (6, 0, 0)))) (6, 0, 0) 0 (some (7, 0, 0)))) (6, 0, 0) 1 (some (7, 1, 0)))) (6, 0, 0) 2 (some (7, 2, 0)))) R
  refine pg_0_86 rfl ?_
  refine pg_0_87 rfl ?_
  refine pg_0_89 rfl ?_
  refine pg_0_90 (Nat.le_of_ble_eq_true rfl) (ct_43_4_3) ?_
  show xm_G (en 4 L) (d + 2) true 0 93 [some (xm_r (0, 0, 0)), some (xm_i x), some (xm_i k), some (xm_i (4 : Int32)), some (xm_i (3 : Int32))] [xm_r (7, 3, 0), xm_i (3 : Int32), xm_r (6, 0, 0)] ((107, 396), (cf_43_4_3 (cf_43_4_2 (cf_43_4_1 (cf_43_4_0 (xm_up fi (1, 0, 0) 0 (if k < (1 : Int32) then (3 : Int32) else (if (8 : Int32) < k then (3 : Int32) else k))))))), (xm_up fl (1, 0, 0) 2 65536), (cr_43_4_3 (xm_up (cr_43_4_2 (xm_up (cr_43_4_1 (xm_up (cr_43_4_0 (xm_up (xm_up (cr_36_4_0 (xm_up r (0, 0, 0) 0 (some (1, 0, 0)))) (0, 0, 0) 1 (some (2, 0, 0))) (0, 0, 0) 2 (some (6, 0, 0)))) (6, 0, 0) 0 (some (7, 0, 0)))) (6, 0, 0) 1 (some (7, 1, 0)))) (6, 0, 0) 2 (some (7, 2, 0))))) R
  refine pg_0_93 (en_ok (t := 3) (s := 0) (by decide +kernel)) (by decide) (by decide) (en_ok (s := 4) (by decide +kernel)) (i := 3) (rfl : (3 : Int32) = nI 3) (by decide) (by decide) ?_
  refine pg_0_94 (y := (4 : Int32)) (lv' := [some (xm_r (0, 0, 0)), some (xm_i x), some (xm_i k), some (xm_i (4 : Int32)), some (xm_i (4 : Int32))]) rfl (by decide) rfl ?_
  refine pg_0_97 ?_
  refine pg_0_71 rfl ?_
  refine pg_0_73 rfl ?_
  refine pg_0_74 (fun _ => ?_) (fun hc => absurd (by decide) hc)
  refine pg_0_100 rfl ?_
  refine pg_0_101 (a := (9, 6, 0)) (en_a (by decide +kernel)) (en_k (by decide +kernel)) ?_
  show xm_G (en 4 L) (d + 2) true 0 104 [some (xm_r (0, 0, 0)), some (xm_i x), some (xm_i k), some (xm_i (4 : Int32)), some (xm_i (4 : Int32))] [xm_r (9, 6, 0), xm_r (0, 0, 0)] ((108, 398), (cf_43_4_3 (cf_43_4_2 (cf_43_4_1 (cf_43_4_0 (xm_up fi (1, 0, 0) 0 (if k < (1 : Int32) then (3 : Int32) else (if (8 : Int32) < k then (3 : Int32) else k))))))), (xm_up fl (1, 0, 0) 2 65536), (xm_up (cr_43_4_3 (xm_up (cr_43_4_2 (xm_up (cr_43_4_1 (xm_up (cr_43_4_0 (xm_up (xm_up (cr_36_4_0 (xm_up r (0, 0, 0) 0 (some (1, 0, 0)))) (0, 0, 0) 1 (some (2, 0, 0))) (0, 0, 0) 2 (some (6, 0, 0)))) (6, 0, 0) 0 (some (7, 0, 0)))) (6, 0, 0) 1 (some (7, 1, 0)))) (6, 0, 0) 2 (some (7, 2, 0)))) (6, 0, 0) 3 (some (7, 3, 0)))) R
  refine pg_0_104 rfl ?_
  refine pg_0_105 rfl ?_
  refine pg_0_106 (Nat.le_of_ble_eq_true rfl) (ct_61 (m := 4) (b := (10, 6, 0)) (rfl : (4 : Int32) = nI 4) (by decide) (en_a (by decide +kernel)) (en_k (by decide +kernel)) (en_ok (by decide +kernel))) ?_
  show xm_G (en 4 L) (d + 2) true 0 109 [some (xm_r (0, 0, 0)), some (xm_i x), some (xm_i k), some (xm_i (4 : Int32)), some (xm_i (4 : Int32))] [xm_r (9, 6, 0), xm_r (0, 0, 0)] ((109, 402), (cf_43_4_3 (cf_43_4_2 (cf_43_4_1 (cf_43_4_0 (xm_up fi (1, 0, 0) 0 (if k < (1 : Int32) then (3 : Int32) else (if (8 : Int32) < k then (3 : Int32) else k))))))), (xm_up fl (1, 0, 0) 2 65536), (xm_up (xm_up (cr_43_4_3 (xm_up (cr_43_4_2 (xm_up (cr_43_4_1 (xm_up (cr_43_4_0 (xm_up (xm_up (cr_36_4_0 (xm_up r (0, 0, 0) 0 (some (1, 0, 0)))) (0, 0, 0) 1 (some (2, 0, 0))) (0, 0, 0) 2 (some (6, 0, 0)))) (6, 0, 0) 0 (some (7, 0, 0)))) (6, 0, 0) 1 (some (7, 1, 0)))) (6, 0, 0) 2 (some (7, 2, 0)))) (6, 0, 0) 3 (some (7, 3, 0))) (9, 6, 0) 0 (some (10, 6, 0)))) R
  refine pg_0_109 (en_ok (by decide +kernel)) ?_
  exact go_eq hR.symm (pg_0_112)
def cf_68_4_0 (fi : FI) (x : Int32) (k : Int32) : FI := (xm_up (xm_up (xm_up (xm_up (xm_up (xm_up (xm_up (xm_up (xm_up (xm_up (xm_up (xm_up (xm_up (xm_up (xm_up (xm_up (xm_up (xm_up (xm_up (xm_up (xm_up (xm_up (xm_up (xm_up (xm_up (xm_up (xm_up (xm_up (xm_up (xm_up (xm_up (xm_up (xm_up (xm_up (xm_up (xm_up (xm_up (xm_up (xm_up fi (20, 0, 0) 5 (65536 : Int32)) (20, 0, 0) 1 (4 : Int32)) (20, 0, 0) 2 (if k < (1 : Int32) then (3 : Int32) else (if k ≤ (8 : Int32) then k else (3 : Int32)))) (21, 14, 0) 0 (1 : Int32)) (21, 14, 0) 1 (1 : Int32)) (21, 14, 0) 2 (1 : Int32)) (21, 14, 0) 3 (1 : Int32)) (21, 14, 0) 4 (1 : Int32)) (21, 14, 0) 5 (1 : Int32)) (21, 14, 0) 6 (1 : Int32)) (21, 14, 0) 7 (1 : Int32)) (21, 14, 0) 8 (1 : Int32)) (21, 14, 0) 9 (1 : Int32)) (21, 14, 0) 10 (1 : Int32)) (21, 14, 0) 11 (1 : Int32)) (21, 14, 0) 12 (1 : Int32)) (21, 14, 0) 13 (1 : Int32)) (21, 14, 0) 14 (1 : Int32)) (21, 14, 0) 15 (1 : Int32)) (21, 14, 0) 16 (1 : Int32)) (21, 14, 0) 17 (1 : Int32)) (21, 14, 0) 18 (1 : Int32)) (21, 14, 0) 19 (1 : Int32)) (21, 14, 0) 20 (1 : Int32)) (21, 14, 0) 21 (1 : Int32)) (21, 14, 0) 22 (1 : Int32)) (21, 14, 0) 23 (1 : Int32)) (21, 14, 0) 24 (1 : Int32)) (21, 14, 0) 25 (1 : Int32)) (21, 14, 0) 26 (1 : Int32)) (21, 14, 0) 27 (1 : Int32)) (21, 14, 0) 28 (1 : Int32)) (21, 14, 0) 29 (1 : Int32)) (21, 14, 0) 30 (1 : Int32)) (21, 14, 0) 31 (1 : Int32)) (21, 14, 0) 32 (1 : Int32)) (21, 14, 0) 33 (1 : Int32)) (21, 14, 0) 34 (1 : Int32)) (21, 14, 0) 35 (1 : Int32))
def cr_68_4_0 (r : xm_I → Nat → Option xm_I) : xm_I → Nat → Option xm_I := (xm_up (xm_up (xm_up (xm_up (xm_up (xm_up (xm_up (xm_up (xm_up (xm_up (xm_up (xm_up (xm_up (xm_up (xm_up (xm_up (xm_up (xm_up (xm_up (xm_up (xm_up (xm_up (xm_up (xm_up (xm_up r (20, 0, 0) 8 (some (21, 8, 0))) (20, 0, 0) 9 (some (21, 9, 0))) (20, 0, 0) 10 (some (21, 10, 0))) (20, 0, 0) 11 (some (21, 11, 0))) (20, 0, 0) 12 (some (21, 12, 0))) (20, 0, 0) 13 (some (21, 13, 0))) (20, 0, 0) 14 (some (21, 14, 0))) (20, 0, 0) 15 (some (21, 15, 0))) (20, 0, 0) 16 (some (21, 16, 0))) (20, 0, 0) 17 (some (21, 17, 0))) (20, 0, 0) 18 (some (21, 18, 0))) (20, 0, 0) 19 (some (21, 19, 0))) (20, 0, 0) 20 (some (21, 20, 0))) (20, 0, 0) 24 (some (21, 24, 0))) (20, 0, 0) 27 (some (21, 27, 0))) (20, 0, 0) 28 (some (21, 28, 0))) (20, 0, 0) 29 (some (21, 29, 0))) (20, 0, 0) 30 (some (21, 30, 0))) (20, 0, 0) 31 (some (21, 31, 0))) (20, 0, 0) 32 (some (21, 32, 0))) (20, 0, 0) 33 (some (21, 33, 0))) (20, 0, 0) 34 (some (21, 34, 0))) (20, 0, 0) 35 (some (21, 35, 0))) (20, 0, 0) 37 (some (21, 37, 0))) (20, 0, 0) 38 (some (21, 38, 0)))
set_option maxRecDepth 8000 in
theorem ct_68_4_0 {L : Nat} {fi : FI} {fl : FL} {r : xm_I → Nat → Option xm_I} {d : Nat} {x : Int32} {k : Int32} (hM : (if x < (4 : Int32) then (4 : Int32) else (if x ≤ (6 : Int32) then x else (4 : Int32))) = (4 : Int32)) : xm_C (en 4 L) (d + 2) true 68 [xm_r (20, 0, 0), xm_i x, xm_i k] ((110, 442), fi, fl, r) (.inl none, ((135, 1487), cf_68_4_0 fi x k, fl, cr_68_4_0 r)) := by
  suffices key : ∀ (E : xm_E) (R : xm_O), E = en 4 L → ((.inl none, ((135, 1487), cf_68_4_0 fi x k, fl, cr_68_4_0 r)) : xm_O) = R → xm_G (en 4 L) (d + 1) true 68 0 [some (xm_r (20, 0, 0)), some (xm_i x), some (xm_i k), none] [] ((110, 442), fi, fl, r) R from go_inr (by decide) (Nat.le_of_ble_eq_true rfl) (key _ _ rfl rfl)
  intro E R hE hR
  refine pg_68_0 rfl ?_
  refine pg_68_1 (Nat.le_of_ble_eq_true rfl) ?_
  refine pg_68_4 rfl ?_
  refine pg_68_5 ?_
  refine pg_68_7 (en_ok (by decide +kernel)) ?_
  refine pg_68_10 rfl ?_
  refine pg_68_11 ?_
  refine pg_68_13 (n := 6) (rfl : (6 : Int32) = nI 6) (by decide) (en_a (a := (21, 8, 0)) (by decide +kernel)) (en_k (by decide +kernel)) ?_
  show xm_G (en 4 L) (d + 1) true 68 15 [some (xm_r (20, 0, 0)), some (xm_i x), some (xm_i k), none] [xm_r (21, 8, 0), xm_r (20, 0, 0)] ((111, 448), (xm_up fi (20, 0, 0) 5 (65536 : Int32)), fl, r) R
  refine pg_68_15 (en_ok (by decide +kernel)) ?_
  refine pg_68_18 rfl ?_
  refine pg_68_19 ?_
  refine pg_68_21 (n := 6) (rfl : (6 : Int32) = nI 6) (by decide) (en_a (a := (21, 9, 0)) (by decide +kernel)) (en_k (by decide +kernel)) ?_
  show xm_G (en 4 L) (d + 1) true 68 23 [some (xm_r (20, 0, 0)), some (xm_i x), some (xm_i k), none] [xm_r (21, 9, 0), xm_r (20, 0, 0)] ((112, 454), (xm_up fi (20, 0, 0) 5 (65536 : Int32)), fl, (xm_up r (20, 0, 0) 8 (some (21, 8, 0)))) R
  refine pg_68_23 (en_ok (by decide +kernel)) ?_
  refine pg_68_26 rfl ?_
  refine pg_68_27 ?_
  refine pg_68_29 (n := 6) (rfl : (6 : Int32) = nI 6) (by decide) (en_a (a := (21, 10, 0)) (by decide +kernel)) (en_k (by decide +kernel)) ?_
  show xm_G (en 4 L) (d + 1) true 68 31 [some (xm_r (20, 0, 0)), some (xm_i x), some (xm_i k), none] [xm_r (21, 10, 0), xm_r (20, 0, 0)] ((113, 460), (xm_up fi (20, 0, 0) 5 (65536 : Int32)), fl, (xm_up (xm_up r (20, 0, 0) 8 (some (21, 8, 0))) (20, 0, 0) 9 (some (21, 9, 0)))) R
  refine pg_68_31 (en_ok (by decide +kernel)) ?_
  refine pg_68_34 rfl ?_
  refine pg_68_35 ?_
  refine pg_68_37 (n := 6) (rfl : (6 : Int32) = nI 6) (by decide) (en_a (a := (21, 11, 0)) (by decide +kernel)) (en_k (by decide +kernel)) ?_
  show xm_G (en 4 L) (d + 1) true 68 39 [some (xm_r (20, 0, 0)), some (xm_i x), some (xm_i k), none] [xm_r (21, 11, 0), xm_r (20, 0, 0)] ((114, 466), (xm_up fi (20, 0, 0) 5 (65536 : Int32)), fl, (xm_up (xm_up (xm_up r (20, 0, 0) 8 (some (21, 8, 0))) (20, 0, 0) 9 (some (21, 9, 0))) (20, 0, 0) 10 (some (21, 10, 0)))) R
  refine pg_68_39 (en_ok (by decide +kernel)) ?_
  refine pg_68_42 rfl ?_
  refine pg_68_43 ?_
  refine pg_68_45 (n := 6) (rfl : (6 : Int32) = nI 6) (by decide) (en_a (a := (21, 12, 0)) (by decide +kernel)) (en_k (by decide +kernel)) ?_
  show xm_G (en 4 L) (d + 1) true 68 47 [some (xm_r (20, 0, 0)), some (xm_i x), some (xm_i k), none] [xm_r (21, 12, 0), xm_r (20, 0, 0)] ((115, 472), (xm_up fi (20, 0, 0) 5 (65536 : Int32)), fl, (xm_up (xm_up (xm_up (xm_up r (20, 0, 0) 8 (some (21, 8, 0))) (20, 0, 0) 9 (some (21, 9, 0))) (20, 0, 0) 10 (some (21, 10, 0))) (20, 0, 0) 11 (some (21, 11, 0)))) R
  refine pg_68_47 (en_ok (by decide +kernel)) ?_
  refine pg_68_50 rfl ?_
  refine pg_68_51 ?_
  refine pg_68_53 (n := 6) (rfl : (6 : Int32) = nI 6) (by decide) (en_a (a := (21, 13, 0)) (by decide +kernel)) (en_k (by decide +kernel)) ?_
  show xm_G (en 4 L) (d + 1) true 68 55 [some (xm_r (20, 0, 0)), some (xm_i x), some (xm_i k), none] [xm_r (21, 13, 0), xm_r (20, 0, 0)] ((116, 478), (xm_up fi (20, 0, 0) 5 (65536 : Int32)), fl, (xm_up (xm_up (xm_up (xm_up (xm_up r (20, 0, 0) 8 (some (21, 8, 0))) (20, 0, 0) 9 (some (21, 9, 0))) (20, 0, 0) 10 (some (21, 10, 0))) (20, 0, 0) 11 (some (21, 11, 0))) (20, 0, 0) 12 (some (21, 12, 0)))) R
  refine pg_68_55 (en_ok (by decide +kernel)) ?_
  refine pg_68_58 rfl ?_
  refine pg_68_59 ?_
  refine pg_68_61 (n := 36) (rfl : (36 : Int32) = nI 36) (by decide) (en_a (a := (21, 14, 0)) (by decide +kernel)) (en_k (by decide +kernel)) ?_
  show xm_G (en 4 L) (d + 1) true 68 63 [some (xm_r (20, 0, 0)), some (xm_i x), some (xm_i k), none] [xm_r (21, 14, 0), xm_r (20, 0, 0)] ((117, 514), (xm_up fi (20, 0, 0) 5 (65536 : Int32)), fl, (xm_up (xm_up (xm_up (xm_up (xm_up (xm_up r (20, 0, 0) 8 (some (21, 8, 0))) (20, 0, 0) 9 (some (21, 9, 0))) (20, 0, 0) 10 (some (21, 10, 0))) (20, 0, 0) 11 (some (21, 11, 0))) (20, 0, 0) 12 (some (21, 12, 0))) (20, 0, 0) 13 (some (21, 13, 0)))) R
  refine pg_68_63 (en_ok (by decide +kernel)) ?_
  refine pg_68_66 rfl ?_
  refine pg_68_67 ?_
  refine pg_68_69 (n := 36) (rfl : (36 : Int32) = nI 36) (by decide) (en_a (a := (21, 15, 0)) (by decide +kernel)) (en_k (by decide +kernel)) ?_
  show xm_G (en 4 L) (d + 1) true 68 71 [some (xm_r (20, 0, 0)), some (xm_i x), some (xm_i k), none] [xm_r (21, 15, 0), xm_r (20, 0, 0)] ((118, 550), (xm_up fi (20, 0, 0) 5 (65536 : Int32)), fl, (xm_up (xm_up (xm_up (xm_up (xm_up (xm_up (xm_up r (20, 0, 0) 8 (some (21, 8, 0))) (20, 0, 0) 9 (some (21, 9, 0))) (20, 0, 0) 10 (some (21, 10, 0))) (20, 0, 0) 11 (some (21, 11, 0))) (20, 0, 0) 12 (some (21, 12, 0))) (20, 0, 0) 13 (some (21, 13, 0))) (20, 0, 0) 14 (some (21, 14, 0)))) R
  refine pg_68_71 (en_ok (by decide +kernel)) ?_
  refine pg_68_74 rfl ?_
  refine pg_68_75 ?_
  refine pg_68_77 (n := 36) (rfl : (36 : Int32) = nI 36) (by decide) (en_a (a := (21, 16, 0)) (by decide +kernel)) (en_k (by decide +kernel)) ?_
  show xm_G (en 4 L) (d + 1) true 68 79 [some (xm_r (20, 0, 0)), some (xm_i x), some (xm_i k), none] [xm_r (21, 16, 0), xm_r (20, 0, 0)] ((119, 586), (xm_up fi (20, 0, 0) 5 (65536 : Int32)), fl, (xm_up (xm_up (xm_up (xm_up (xm_up (xm_up (xm_up (xm_up r (20, 0, 0) 8 (some (21, 8, 0))) (20, 0, 0) 9 (some (21, 9, 0))) (20, 0, 0) 10 (some (21, 10, 0))) (20, 0, 0) 11 (some (21, 11, 0))) (20, 0, 0) 12 (some (21, 12, 0))) (20, 0, 0) 13 (some (21, 13, 0))) (20, 0, 0) 14 (some (21, 14, 0))) (20, 0, 0) 15 (some (21, 15, 0)))) R
  refine pg_68_79 (en_ok (by decide +kernel)) ?_
  refine pg_68_82 rfl ?_
  refine pg_68_83 ?_
  refine pg_68_85 (n := 36) (rfl : (36 : Int32) = nI 36) (by decide) (en_a (a := (21, 17, 0)) (by decide +kernel)) (en_k (by decide +kernel)) ?_
  show xm_G (en 4 L) (d + 1) true 68 87 [some (xm_r (20, 0, 0)), some (xm_i x), some (xm_i k), none] [xm_r (21, 17, 0), xm_r (20, 0, 0)] ((120, 622), (xm_up fi (20, 0, 0) 5 (65536 : Int32)), fl, (xm_up (xm_up (xm_up (xm_up (xm_up (xm_up (xm_up (xm_up (xm_up r (20, 0, 0) 8 (some (21, 8, 0))) (20, 0, 0) 9 (some (21, 9, 0))) (20, 0, 0) 10 (some (21, 10, 0))) (20, 0, 0) 11 (some (21, 11, 0))) (20, 0, 0) 12 (some (21, 12, 0))) (20, 0, 0) 13 (some (21, 13, 0))) (20, 0, 0) 14 (some (21, 14, 0))) (20, 0, 0) 15 (some (21, 15, 0))) (20, 0, 0) 16 (some (21, 16, 0)))) R
  refine pg_68_87 (en_ok (by decide +kernel)) ?_
  refine pg_68_90 rfl ?_
  refine pg_68_91 ?_
  refine pg_68_93 (n := 6) (rfl : (6 : Int32) = nI 6) (by decide) (en_a (a := (21, 18, 0)) (by decide +kernel)) (en_k (by decide +kernel)) ?_
  show xm_G (en 4 L) (d + 1) true 68 95 [some (xm_r (20, 0, 0)), some (xm_i x), some (xm_i k), none] [xm_r (21, 18, 0), xm_r (20, 0, 0)] ((121, 628), (xm_up fi (20, 0, 0) 5 (65536 : Int32)), fl, (xm_up (xm_up (xm_up (xm_up (xm_up (xm_up (xm_up (xm_up (xm_up (xm_up r (20, 0, 0) 8 (some (21, 8, 0))) (20, 0, 0) 9 (some (21, 9, 0))) (20, 0, 0) 10 (some (21, 10, 0))) (20, 0, 0) 11 (some (21, 11, 0))) (20, 0, 0) 12 (some (21, 12, 0))) (20, 0, 0) 13 (some (21, 13, 0))) (20, 0, 0) 14 (some (21, 14, 0))) (20, 0, 0) 15 (some (21, 15, 0))) (20, 0, 0) 16 (some (21, 16, 0))) (20, 0, 0) 17 (some (21, 17, 0)))) R
  refine pg_68_95 (en_ok (by decide +kernel)) ?_
  refine pg_68_98 rfl ?_
  refine pg_68_99 ?_
  refine pg_68_101 (n := 6) (rfl : (6 : Int32) = nI 6) (by decide) (en_a (a := (21, 19, 0)) (by decide +kernel)) (en_k (by decide +kernel)) ?_
  show xm_G (en 4 L) (d + 1) true 68 103 [some (xm_r (20, 0, 0)), some (xm_i x), some (xm_i k), none] [xm_r (21, 19, 0), xm_r (20, 0, 0)] ((122, 634), (xm_up fi (20, 0, 0) 5 (65536 : Int32)), fl, (xm_up (xm_up (xm_up (xm_up (xm_up (xm_up (xm_up (xm_up (xm_up (xm_up (xm_up r (20, 0, 0) 8 (some (21, 8, 0))) (20, 0, 0) 9 (some (21, 9, 0))) (20, 0, 0) 10 (some (21, 10, 0))) (20, 0, 0) 11 (some (21, 11, 0))) (20, 0, 0) 12 (some (21, 12, 0))) (20, 0, 0) 13 (some (21, 13, 0))) (20, 0, 0) 14 (some (21, 14, 0))) (20, 0, 0) 15 (some (21, 15, 0))) (20, 0, 0) 16 (some (21, 16, 0))) (20, 0, 0) 17 (some (21, 17, 0))) (20, 0, 0) 18 (some (21, 18, 0)))) R
  refine pg_68_103 (en_ok (by decide +kernel)) ?_
  refine pg_68_106 rfl ?_
  refine pg_68_107 ?_
  refine pg_68_109 (n := 6) (rfl : (6 : Int32) = nI 6) (by decide) (en_a (a := (21, 20, 0)) (by decide +kernel)) (en_k (by decide +kernel)) ?_
  show xm_G (en 4 L) (d + 1) true 68 111 [some (xm_r (20, 0, 0)), some (xm_i x), some (xm_i k), none] [xm_r (21, 20, 0), xm_r (20, 0, 0)] ((123, 640), (xm_up fi (20, 0, 0) 5 (65536 : Int32)), fl, (xm_up (xm_up (xm_up (xm_up (xm_up (xm_up (xm_up (xm_up (xm_up (xm_up (xm_up (xm_up r (20, 0, 0) 8 (some (21, 8, 0))) (20, 0, 0) 9 (some (21, 9, 0))) (20, 0, 0) 10 (some (21, 10, 0))) (20, 0, 0) 11 (some (21, 11, 0))) (20, 0, 0) 12 (some (21, 12, 0))) (20, 0, 0) 13 (some (21, 13, 0))) (20, 0, 0) 14 (some (21, 14, 0))) (20, 0, 0) 15 (some (21, 15, 0))) (20, 0, 0) 16 (some (21, 16, 0))) (20, 0, 0) 17 (some (21, 17, 0))) (20, 0, 0) 18 (some (21, 18, 0))) (20, 0, 0) 19 (some (21, 19, 0)))) R
  refine pg_68_111 (en_ok (by decide +kernel)) ?_
  refine pg_68_114 rfl ?_
  refine pg_68_115 ?_
  refine pg_68_117 (n := 7) (rfl : (7 : Int32) = nI 7) (by decide) (en_a (a := (21, 24, 0)) (by decide +kernel)) (en_k (by decide +kernel)) ?_
  show xm_G (en 4 L) (d + 1) true 68 119 [some (xm_r (20, 0, 0)), some (xm_i x), some (xm_i k), none] [xm_r (21, 24, 0), xm_r (20, 0, 0)] ((124, 647), (xm_up fi (20, 0, 0) 5 (65536 : Int32)), fl, (xm_up (xm_up (xm_up (xm_up (xm_up (xm_up (xm_up (xm_up (xm_up (xm_up (xm_up (xm_up (xm_up r (20, 0, 0) 8 (some (21, 8, 0))) (20, 0, 0) 9 (some (21, 9, 0))) (20, 0, 0) 10 (some (21, 10, 0))) (20, 0, 0) 11 (some (21, 11, 0))) (20, 0, 0) 12 (some (21, 12, 0))) (20, 0, 0) 13 (some (21, 13, 0))) (20, 0, 0) 14 (some (21, 14, 0))) (20, 0, 0) 15 (some (21, 15, 0))) (20, 0, 0) 16 (some (21, 16, 0))) (20, 0, 0) 17 (some (21, 17, 0))) (20, 0, 0) 18 (some (21, 18, 0))) (20, 0, 0) 19 (some (21, 19, 0))) (20, 0, 0) 20 (some (21, 20, 0)))) R
  refine pg_68_119 (en_ok (by decide +kernel)) ?_
  refine pg_68_122 rfl ?_
  refine pg_68_123 ?_
  refine pg_68_125 (n := 36) (rfl : (36 : Int32) = nI 36) (by decide) (en_a (a := (21, 27, 0)) (by decide +kernel)) (en_k (by decide +kernel)) ?_
  show xm_G (en 4 L) (d + 1) true 68 127 [some (xm_r (20, 0, 0)), some (xm_i x), some (xm_i k), none] [xm_r (21, 27, 0), xm_r (20, 0, 0)] ((125, 683), (xm_up fi (20, 0, 0) 5 (65536 : Int32)), fl, (xm_up (xm_up (xm_up (xm_up (xm_up (xm_up (xm_up (xm_up (xm_up (xm_up (xm_up (xm_up (xm_up (xm_up r (20, 0, 0) 8 (some (21, 8, 0))) (20, 0, 0) 9 (some (21, 9, 0))) (20, 0, 0) 10 (some (21, 10, 0))) (20, 0, 0) 11 (some (21, 11, 0))) (20, 0, 0) 12 (some (21, 12, 0))) (20, 0, 0) 13 (some (21, 13, 0))) (20, 0, 0) 14 (some (21, 14, 0))) (20, 0, 0) 15 (some (21, 15, 0))) (20, 0, 0) 16 (some (21, 16, 0))) (20, 0, 0) 17 (some (21, 17, 0))) (20, 0, 0) 18 (some (21, 18, 0))) (20, 0, 0) 19 (some (21, 19, 0))) (20, 0, 0) 20 (some (21, 20, 0))) (20, 0, 0) 24 (some (21, 24, 0)))) R
  refine pg_68_127 (en_ok (by decide +kernel)) ?_
  refine pg_68_130 rfl ?_
  refine pg_68_131 ?_
  refine pg_68_133 (n := 36) (rfl : (36 : Int32) = nI 36) (by decide) (en_a (a := (21, 28, 0)) (by decide +kernel)) (en_k (by decide +kernel)) ?_
  show xm_G (en 4 L) (d + 1) true 68 135 [some (xm_r (20, 0, 0)), some (xm_i x), some (xm_i k), none] [xm_r (21, 28, 0), xm_r (20, 0, 0)] ((126, 719), (xm_up fi (20, 0, 0) 5 (65536 : Int32)), fl, (xm_up (xm_up (xm_up (xm_up (xm_up (xm_up (xm_up (xm_up (xm_up (xm_up (xm_up (xm_up (xm_up (xm_up (xm_up r (20, 0, 0) 8 (some (21, 8, 0))) (20, 0, 0) 9 (some (21, 9, 0))) (20, 0, 0) 10 (some (21, 10, 0))) (20, 0, 0) 11 (some (21, 11, 0))) (20, 0, 0) 12 (some (21, 12, 0))) (20, 0, 0) 13 (some (21, 13, 0))) (20, 0, 0) 14 (some (21, 14, 0))) (20, 0, 0) 15 (some (21, 15, 0))) (20, 0, 0) 16 (some (21, 16, 0))) (20, 0, 0) 17 (some (21, 17, 0))) (20, 0, 0) 18 (some (21, 18, 0))) (20, 0, 0) 19 (some (21, 19, 0))) (20, 0, 0) 20 (some (21, 20, 0))) (20, 0, 0) 24 (some (21, 24, 0))) (20, 0, 0) 27 (some (21, 27, 0)))) R
  refine pg_68_135 (en_ok (by decide +kernel)) ?_
  refine pg_68_138 rfl ?_
  refine pg_68_139 ?_
  refine pg_68_142 (n := 216) (rfl : (216 : Int32) = nI 216) (by decide) (en_a (a := (21, 29, 0)) (by decide +kernel)) (en_k (by decide +kernel)) ?_
  show xm_G (en 4 L) (d + 1) true 68 144 [some (xm_r (20, 0, 0)), some (xm_i x), some (xm_i k), none] [xm_r (21, 29, 0), xm_r (20, 0, 0)] ((127, 935), (xm_up fi (20, 0, 0) 5 (65536 : Int32)), fl, (xm_up (xm_up (xm_up (xm_up (xm_up (xm_up (xm_up (xm_up (xm_up (xm_up (xm_up (xm_up (xm_up (xm_up (xm_up (xm_up r (20, 0, 0) 8 (some (21, 8, 0))) (20, 0, 0) 9 (some (21, 9, 0))) (20, 0, 0) 10 (some (21, 10, 0))) (20, 0, 0) 11 (some (21, 11, 0))) (20, 0, 0) 12 (some (21, 12, 0))) (20, 0, 0) 13 (some (21, 13, 0))) (20, 0, 0) 14 (some (21, 14, 0))) (20, 0, 0) 15 (some (21, 15, 0))) (20, 0, 0) 16 (some (21, 16, 0))) (20, 0, 0) 17 (some (21, 17, 0))) (20, 0, 0) 18 (some (21, 18, 0))) (20, 0, 0) 19 (some (21, 19, 0))) (20, 0, 0) 20 (some (21, 20, 0))) (20, 0, 0) 24 (some (21, 24, 0))) (20, 0, 0) 27 (some (21, 27, 0))) (20, 0, 0) 28 (some (21, 28, 0)))) R
  refine pg_68_144 (en_ok (by decide +kernel)) ?_
  refine pg_68_147 rfl ?_
  refine pg_68_148 ?_
  refine pg_68_151 (n := 216) (rfl : (216 : Int32) = nI 216) (by decide) (en_a (a := (21, 30, 0)) (by decide +kernel)) (en_k (by decide +kernel)) ?_
  show xm_G (en 4 L) (d + 1) true 68 153 [some (xm_r (20, 0, 0)), some (xm_i x), some (xm_i k), none] [xm_r (21, 30, 0), xm_r (20, 0, 0)] ((128, 1151), (xm_up fi (20, 0, 0) 5 (65536 : Int32)), fl, (xm_up (xm_up (xm_up (xm_up (xm_up (xm_up (xm_up (xm_up (xm_up (xm_up (xm_up (xm_up (xm_up (xm_up (xm_up (xm_up (xm_up r (20, 0, 0) 8 (some (21, 8, 0))) (20, 0, 0) 9 (some (21, 9, 0))) (20, 0, 0) 10 (some (21, 10, 0))) (20, 0, 0) 11 (some (21, 11, 0))) (20, 0, 0) 12 (some (21, 12, 0))) (20, 0, 0) 13 (some (21, 13, 0))) (20, 0, 0) 14 (some (21, 14, 0))) (20, 0, 0) 15 (some (21, 15, 0))) (20, 0, 0) 16 (some (21, 16, 0))) (20, 0, 0) 17 (some (21, 17, 0))) (20, 0, 0) 18 (some (21, 18, 0))) (20, 0, 0) 19 (some (21, 19, 0))) (20, 0, 0) 20 (some (21, 20, 0))) (20, 0, 0) 24 (some (21, 24, 0))) (20, 0, 0) 27 (some (21, 27, 0))) (20, 0, 0) 28 (some (21, 28, 0))) (20, 0, 0) 29 (some (21, 29, 0)))) R
  refine pg_68_153 (en_ok (by decide +kernel)) ?_
  refine pg_68_156 rfl ?_
  refine pg_68_157 ?_
  refine pg_68_159 (n := 6) (rfl : (6 : Int32) = nI 6) (by decide) (en_a (a := (21, 31, 0)) (by decide +kernel)) (en_k (by decide +kernel)) ?_
  show xm_G (en 4 L) (d + 1) true 68 161 [some (xm_r (20, 0, 0)), some (xm_i x), some (xm_i k), none] [xm_r (21, 31, 0), xm_r (20, 0, 0)] ((129, 1157), (xm_up fi (20, 0, 0) 5 (65536 : Int32)), fl, (xm_up (xm_up (xm_up (xm_up (xm_up (xm_up (xm_up (xm_up (xm_up (xm_up (xm_up (xm_up (xm_up (xm_up (xm_up (xm_up (xm_up (xm_up r (20, 0, 0) 8 (some (21, 8, 0))) (20, 0, 0) 9 (some (21, 9, 0))) (20, 0, 0) 10 (some (21, 10, 0))) (20, 0, 0) 11 (some (21, 11, 0))) (20, 0, 0) 12 (some (21, 12, 0))) (20, 0, 0) 13 (some (21, 13, 0))) (20, 0, 0) 14 (some (21, 14, 0))) (20, 0, 0) 15 (some (21, 15, 0))) (20, 0, 0) 16 (some (21, 16, 0))) (20, 0, 0) 17 (some (21, 17, 0))) (20, 0, 0) 18 (some (21, 18, 0))) (20, 0, 0) 19 (some (21, 19, 0))) (20, 0, 0) 20 (some (21, 20, 0))) (20, 0, 0) 24 (some (21, 24, 0))) (20, 0, 0) 27 (some (21, 27, 0))) (20, 0, 0) 28 (some (21, 28, 0))) (20, 0, 0) 29 (some (21, 29, 0))) (20, 0, 0) 30 (some (21, 30, 0)))) R
  refine pg_68_161 (en_ok (by decide +kernel)) ?_
  refine pg_68_164 rfl ?_
  refine pg_68_165 ?_
  refine pg_68_167 (n := 6) (rfl : (6 : Int32) = nI 6) (by decide) (en_a (a := (21, 32, 0)) (by decide +kernel)) (en_k (by decide +kernel)) ?_
  show xm_G (en 4 L) (d + 1) true 68 169 [some (xm_r (20, 0, 0)), some (xm_i x), some (xm_i k), none] [xm_r (21, 32, 0), xm_r (20, 0, 0)] ((130, 1163), (xm_up fi (20, 0, 0) 5 (65536 : Int32)), fl, (xm_up (xm_up (xm_up (xm_up (xm_up (xm_up (xm_up (xm_up (xm_up (xm_up (xm_up (xm_up (xm_up (xm_up (xm_up (xm_up (xm_up (xm_up (xm_up r (20, 0, 0) 8 (some (21, 8, 0))) (20, 0, 0) 9 (some (21, 9, 0))) (20, 0, 0) 10 (some (21, 10, 0))) (20, 0, 0) 11 (some (21, 11, 0))) (20, 0, 0) 12 (some (21, 12, 0))) (20, 0, 0) 13 (some (21, 13, 0))) (20, 0, 0) 14 (some (21, 14, 0))) (20, 0, 0) 15 (some (21, 15, 0))) (20, 0, 0) 16 (some (21, 16, 0))) (20, 0, 0) 17 (some (21, 17, 0))) (20, 0, 0) 18 (some (21, 18, 0))) (20, 0, 0) 19 (some (21, 19, 0))) (20, 0, 0) 20 (some (21, 20, 0))) (20, 0, 0) 24 (some (21, 24, 0))) (20, 0, 0) 27 (some (21, 27, 0))) (20, 0, 0) 28 (some (21, 28, 0))) (20, 0, 0) 29 (some (21, 29, 0))) (20, 0, 0) 30 (some (21, 30, 0))) (20, 0, 0) 31 (some (21, 31, 0)))) R
  refine pg_68_169 (en_ok (by decide +kernel)) ?_
  refine pg_68_172 rfl ?_
  refine pg_68_173 ?_
  refine pg_68_175 (n := 24) (rfl : (24 : Int32) = nI 24) (by decide) (en_a (a := (21, 33, 0)) (by decide +kernel)) (en_k (by decide +kernel)) ?_
  show xm_G (en 4 L) (d + 1) true 68 177 [some (xm_r (20, 0, 0)), some (xm_i x), some (xm_i k), none] [xm_r (21, 33, 0), xm_r (20, 0, 0)] ((131, 1187), (xm_up fi (20, 0, 0) 5 (65536 : Int32)), fl, (xm_up (xm_up (xm_up (xm_up (xm_up (xm_up (xm_up (xm_up (xm_up (xm_up (xm_up (xm_up (xm_up (xm_up (xm_up (xm_up (xm_up (xm_up (xm_up (xm_up r (20, 0, 0) 8 (some (21, 8, 0))) (20, 0, 0) 9 (some (21, 9, 0))) (20, 0, 0) 10 (some (21, 10, 0))) (20, 0, 0) 11 (some (21, 11, 0))) (20, 0, 0) 12 (some (21, 12, 0))) (20, 0, 0) 13 (some (21, 13, 0))) (20, 0, 0) 14 (some (21, 14, 0))) (20, 0, 0) 15 (some (21, 15, 0))) (20, 0, 0) 16 (some (21, 16, 0))) (20, 0, 0) 17 (some (21, 17, 0))) (20, 0, 0) 18 (some (21, 18, 0))) (20, 0, 0) 19 (some (21, 19, 0))) (20, 0, 0) 20 (some (21, 20, 0))) (20, 0, 0) 24 (some (21, 24, 0))) (20, 0, 0) 27 (some (21, 27, 0))) (20, 0, 0) 28 (some (21, 28, 0))) (20, 0, 0) 29 (some (21, 29, 0))) (20, 0, 0) 30 (some (21, 30, 0))) (20, 0, 0) 31 (some (21, 31, 0))) (20, 0, 0) 32 (some (21, 32, 0)))) R
  refine pg_68_177 (en_ok (by decide +kernel)) ?_
  refine pg_68_180 rfl ?_
  refine pg_68_181 ?_
  refine pg_68_184 (n := 144) (rfl : (144 : Int32) = nI 144) (by decide) (en_a (a := (21, 34, 0)) (by decide +kernel)) (en_k (by decide +kernel)) ?_
  show xm_G (en 4 L) (d + 1) true 68 186 [some (xm_r (20, 0, 0)), some (xm_i x), some (xm_i k), none] [xm_r (21, 34, 0), xm_r (20, 0, 0)] ((132, 1331), (xm_up fi (20, 0, 0) 5 (65536 : Int32)), fl, (xm_up (xm_up (xm_up (xm_up (xm_up (xm_up (xm_up (xm_up (xm_up (xm_up (xm_up (xm_up (xm_up (xm_up (xm_up (xm_up (xm_up (xm_up (xm_up (xm_up (xm_up r (20, 0, 0) 8 (some (21, 8, 0))) (20, 0, 0) 9 (some (21, 9, 0))) (20, 0, 0) 10 (some (21, 10, 0))) (20, 0, 0) 11 (some (21, 11, 0))) (20, 0, 0) 12 (some (21, 12, 0))) (20, 0, 0) 13 (some (21, 13, 0))) (20, 0, 0) 14 (some (21, 14, 0))) (20, 0, 0) 15 (some (21, 15, 0))) (20, 0, 0) 16 (some (21, 16, 0))) (20, 0, 0) 17 (some (21, 17, 0))) (20, 0, 0) 18 (some (21, 18, 0))) (20, 0, 0) 19 (some (21, 19, 0))) (20, 0, 0) 20 (some (21, 20, 0))) (20, 0, 0) 24 (some (21, 24, 0))) (20, 0, 0) 27 (some (21, 27, 0))) (20, 0, 0) 28 (some (21, 28, 0))) (20, 0, 0) 29 (some (21, 29, 0))) (20, 0, 0) 30 (some (21, 30, 0))) (20, 0, 0) 31 (some (21, 31, 0))) (20, 0, 0) 32 (some (21, 32, 0))) (20, 0, 0) 33 (some (21, 33, 0)))) R
  refine pg_68_186 (en_ok (by decide +kernel)) ?_
  refine pg_68_189 rfl ?_
  refine pg_68_190 ?_
  refine pg_68_193 (n := 144) (rfl : (144 : Int32) = nI 144) (by decide) (en_a (a := (21, 35, 0)) (by decide +kernel)) (en_k (by decide +kernel)) ?_
  show xm_G (en 4 L) (d + 1) true 68 195 [some (xm_r (20, 0, 0)), some (xm_i x), some (xm_i k), none] [xm_r (21, 35, 0), xm_r (20, 0, 0)] ((133, 1475), (xm_up fi (20, 0, 0) 5 (65536 : Int32)), fl, (xm_up (xm_up (xm_up (xm_up (xm_up (xm_up (xm_up (xm_up (xm_up (xm_up (xm_up (xm_up (xm_up (xm_up (xm_up (xm_up (xm_up (xm_up (xm_up (xm_up (xm_up (xm_up r (20, 0, 0) 8 (some (21, 8, 0))) (20, 0, 0) 9 (some (21, 9, 0))) (20, 0, 0) 10 (some (21, 10, 0))) (20, 0, 0) 11 (some (21, 11, 0))) (20, 0, 0) 12 (some (21, 12, 0))) (20, 0, 0) 13 (some (21, 13, 0))) (20, 0, 0) 14 (some (21, 14, 0))) (20, 0, 0) 15 (some (21, 15, 0))) (20, 0, 0) 16 (some (21, 16, 0))) (20, 0, 0) 17 (some (21, 17, 0))) (20, 0, 0) 18 (some (21, 18, 0))) (20, 0, 0) 19 (some (21, 19, 0))) (20, 0, 0) 20 (some (21, 20, 0))) (20, 0, 0) 24 (some (21, 24, 0))) (20, 0, 0) 27 (some (21, 27, 0))) (20, 0, 0) 28 (some (21, 28, 0))) (20, 0, 0) 29 (some (21, 29, 0))) (20, 0, 0) 30 (some (21, 30, 0))) (20, 0, 0) 31 (some (21, 31, 0))) (20, 0, 0) 32 (some (21, 32, 0))) (20, 0, 0) 33 (some (21, 33, 0))) (20, 0, 0) 34 (some (21, 34, 0)))) R
  refine pg_68_195 (en_ok (by decide +kernel)) ?_
  refine pg_68_198 rfl ?_
  refine pg_68_199 ?_
  refine pg_68_201 (n := 6) (rfl : (6 : Int32) = nI 6) (by decide) (en_a (a := (21, 37, 0)) (by decide +kernel)) (en_k (by decide +kernel)) ?_
  show xm_G (en 4 L) (d + 1) true 68 203 [some (xm_r (20, 0, 0)), some (xm_i x), some (xm_i k), none] [xm_r (21, 37, 0), xm_r (20, 0, 0)] ((134, 1481), (xm_up fi (20, 0, 0) 5 (65536 : Int32)), fl, (xm_up (xm_up (xm_up (xm_up (xm_up (xm_up (xm_up (xm_up (xm_up (xm_up (xm_up (xm_up (xm_up (xm_up (xm_up (xm_up (xm_up (xm_up (xm_up (xm_up (xm_up (xm_up (xm_up r (20, 0, 0) 8 (some (21, 8, 0))) (20, 0, 0) 9 (some (21, 9, 0))) (20, 0, 0) 10 (some (21, 10, 0))) (20, 0, 0) 11 (some (21, 11, 0))) (20, 0, 0) 12 (some (21, 12, 0))) (20, 0, 0) 13 (some (21, 13, 0))) (20, 0, 0) 14 (some (21, 14, 0))) (20, 0, 0) 15 (some (21, 15, 0))) (20, 0, 0) 16 (some (21, 16, 0))) (20, 0, 0) 17 (some (21, 17, 0))) (20, 0, 0) 18 (some (21, 18, 0))) (20, 0, 0) 19 (some (21, 19, 0))) (20, 0, 0) 20 (some (21, 20, 0))) (20, 0, 0) 24 (some (21, 24, 0))) (20, 0, 0) 27 (some (21, 27, 0))) (20, 0, 0) 28 (some (21, 28, 0))) (20, 0, 0) 29 (some (21, 29, 0))) (20, 0, 0) 30 (some (21, 30, 0))) (20, 0, 0) 31 (some (21, 31, 0))) (20, 0, 0) 32 (some (21, 32, 0))) (20, 0, 0) 33 (some (21, 33, 0))) (20, 0, 0) 34 (some (21, 34, 0))) (20, 0, 0) 35 (some (21, 35, 0)))) R
  refine pg_68_203 (en_ok (by decide +kernel)) ?_
  refine pg_68_206 rfl ?_
  refine pg_68_207 ?_
  refine pg_68_209 (n := 6) (rfl : (6 : Int32) = nI 6) (by decide) (en_a (a := (21, 38, 0)) (by decide +kernel)) (en_k (by decide +kernel)) ?_
  show xm_G (en 4 L) (d + 1) true 68 211 [some (xm_r (20, 0, 0)), some (xm_i x), some (xm_i k), none] [xm_r (21, 38, 0), xm_r (20, 0, 0)] ((135, 1487), (xm_up fi (20, 0, 0) 5 (65536 : Int32)), fl, (xm_up (xm_up (xm_up (xm_up (xm_up (xm_up (xm_up (xm_up (xm_up (xm_up (xm_up (xm_up (xm_up (xm_up (xm_up (xm_up (xm_up (xm_up (xm_up (xm_up (xm_up (xm_up (xm_up (xm_up r (20, 0, 0) 8 (some (21, 8, 0))) (20, 0, 0) 9 (some (21, 9, 0))) (20, 0, 0) 10 (some (21, 10, 0))) (20, 0, 0) 11 (some (21, 11, 0))) (20, 0, 0) 12 (some (21, 12, 0))) (20, 0, 0) 13 (some (21, 13, 0))) (20, 0, 0) 14 (some (21, 14, 0))) (20, 0, 0) 15 (some (21, 15, 0))) (20, 0, 0) 16 (some (21, 16, 0))) (20, 0, 0) 17 (some (21, 17, 0))) (20, 0, 0) 18 (some (21, 18, 0))) (20, 0, 0) 19 (some (21, 19, 0))) (20, 0, 0) 20 (some (21, 20, 0))) (20, 0, 0) 24 (some (21, 24, 0))) (20, 0, 0) 27 (some (21, 27, 0))) (20, 0, 0) 28 (some (21, 28, 0))) (20, 0, 0) 29 (some (21, 29, 0))) (20, 0, 0) 30 (some (21, 30, 0))) (20, 0, 0) 31 (some (21, 31, 0))) (20, 0, 0) 32 (some (21, 32, 0))) (20, 0, 0) 33 (some (21, 33, 0))) (20, 0, 0) 34 (some (21, 34, 0))) (20, 0, 0) 35 (some (21, 35, 0))) (20, 0, 0) 37 (some (21, 37, 0)))) R
  refine pg_68_211 (en_ok (by decide +kernel)) ?_
  refine pg_68_214 rfl ?_
  refine pg_68_215 rfl ?_
  refine pg_68_216 ?_
  suffices KJ : xm_G (en 4 L) (d + 1) true 68 231 [some (xm_r (20, 0, 0)), some (xm_i x), some (xm_i k), none] [xm_i (if x < (4 : Int32) then (4 : Int32) else (if x ≤ (6 : Int32) then x else (4 : Int32))), xm_r (20, 0, 0)] ((135, 1487), (xm_up fi (20, 0, 0) 5 (65536 : Int32)), fl, (xm_up (xm_up (xm_up (xm_up (xm_up (xm_up (xm_up (xm_up (xm_up (xm_up (xm_up (xm_up (xm_up (xm_up (xm_up (xm_up (xm_up (xm_up (xm_up (xm_up (xm_up (xm_up (xm_up (xm_up (xm_up r (20, 0, 0) 8 (some (21, 8, 0))) (20, 0, 0) 9 (some (21, 9, 0))) (20, 0, 0) 10 (some (21, 10, 0))) (20, 0, 0) 11 (some (21, 11, 0))) (20, 0, 0) 12 (some (21, 12, 0))) (20, 0, 0) 13 (some (21, 13, 0))) (20, 0, 0) 14 (some (21, 14, 0))) (20, 0, 0) 15 (some (21, 15, 0))) (20, 0, 0) 16 (some (21, 16, 0))) (20, 0, 0) 17 (some (21, 17, 0))) (20, 0, 0) 18 (some (21, 18, 0))) (20, 0, 0) 19 (some (21, 19, 0))) (20, 0, 0) 20 (some (21, 20, 0))) (20, 0, 0) 24 (some (21, 24, 0))) (20, 0, 0) 27 (some (21, 27, 0))) (20, 0, 0) 28 (some (21, 28, 0))) (20, 0, 0) 29 (some (21, 29, 0))) (20, 0, 0) 30 (some (21, 30, 0))) (20, 0, 0) 31 (some (21, 31, 0))) (20, 0, 0) 32 (some (21, 32, 0))) (20, 0, 0) 33 (some (21, 33, 0))) (20, 0, 0) 34 (some (21, 34, 0))) (20, 0, 0) 35 (some (21, 35, 0))) (20, 0, 0) 37 (some (21, 37, 0))) (20, 0, 0) 38 (some (21, 38, 0)))) R by
    refine pg_68_217 (fun hc1 => ?_) (fun hc2 => ?_)
    · refine pg_68_226 ?_
      refine pg_68_227 ?_
      repeat rw [if_pos hc1] at KJ
      repeat rw [if_pos hc1]
      exact KJ
    · refine pg_68_220 rfl ?_
      refine pg_68_221 ?_
      refine pg_68_223 (fun hc3 => ?_) (fun hc4 => ?_)
      · refine pg_68_230 rfl ?_
        repeat rw [if_neg hc2] at KJ
        repeat rw [if_pos hc3] at KJ
        repeat rw [if_neg hc2]
        repeat rw [if_pos hc3]
        exact KJ
      · refine pg_68_226 ?_
        refine pg_68_227 ?_
        repeat rw [if_neg hc2] at KJ
        repeat rw [if_neg hc4] at KJ
        repeat rw [if_neg hc2]
        repeat rw [if_neg hc4]
        exact KJ
  refine go_top (y := (4 : Int32)) hM ?_
  refine pg_68_231 (en_ok (by decide +kernel)) ?_
  refine pg_68_234 rfl ?_
  refine pg_68_235 rfl ?_
  refine pg_68_236 ?_
  suffices KJ : xm_G (en 4 L) (d + 1) true 68 251 [some (xm_r (20, 0, 0)), some (xm_i x), some (xm_i k), none] [xm_i (if k < (1 : Int32) then (3 : Int32) else (if k ≤ (8 : Int32) then k else (3 : Int32))), xm_r (20, 0, 0)] ((135, 1487), (xm_up (xm_up fi (20, 0, 0) 5 (65536 : Int32)) (20, 0, 0) 1 (4 : Int32)), fl, (xm_up (xm_up (xm_up (xm_up (xm_up (xm_up (xm_up (xm_up (xm_up (xm_up (xm_up (xm_up (xm_up (xm_up (xm_up (xm_up (xm_up (xm_up (xm_up (xm_up (xm_up (xm_up (xm_up (xm_up (xm_up r (20, 0, 0) 8 (some (21, 8, 0))) (20, 0, 0) 9 (some (21, 9, 0))) (20, 0, 0) 10 (some (21, 10, 0))) (20, 0, 0) 11 (some (21, 11, 0))) (20, 0, 0) 12 (some (21, 12, 0))) (20, 0, 0) 13 (some (21, 13, 0))) (20, 0, 0) 14 (some (21, 14, 0))) (20, 0, 0) 15 (some (21, 15, 0))) (20, 0, 0) 16 (some (21, 16, 0))) (20, 0, 0) 17 (some (21, 17, 0))) (20, 0, 0) 18 (some (21, 18, 0))) (20, 0, 0) 19 (some (21, 19, 0))) (20, 0, 0) 20 (some (21, 20, 0))) (20, 0, 0) 24 (some (21, 24, 0))) (20, 0, 0) 27 (some (21, 27, 0))) (20, 0, 0) 28 (some (21, 28, 0))) (20, 0, 0) 29 (some (21, 29, 0))) (20, 0, 0) 30 (some (21, 30, 0))) (20, 0, 0) 31 (some (21, 31, 0))) (20, 0, 0) 32 (some (21, 32, 0))) (20, 0, 0) 33 (some (21, 33, 0))) (20, 0, 0) 34 (some (21, 34, 0))) (20, 0, 0) 35 (some (21, 35, 0))) (20, 0, 0) 37 (some (21, 37, 0))) (20, 0, 0) 38 (some (21, 38, 0)))) R by
    refine pg_68_237 (fun hc5 => ?_) (fun hc6 => ?_)
    · refine pg_68_246 ?_
      refine pg_68_247 ?_
      repeat rw [if_pos hc5] at KJ
      repeat rw [if_pos hc5]
      exact KJ
    · refine pg_68_240 rfl ?_
      refine pg_68_241 ?_
      refine pg_68_243 (fun hc7 => ?_) (fun hc8 => ?_)
      · refine pg_68_250 rfl ?_
        repeat rw [if_neg hc6] at KJ
        repeat rw [if_pos hc7] at KJ
        repeat rw [if_neg hc6]
        repeat rw [if_pos hc7]
        exact KJ
      · refine pg_68_246 ?_
        refine pg_68_247 ?_
        repeat rw [if_neg hc6] at KJ
        repeat rw [if_neg hc8] at KJ
        repeat rw [if_neg hc6]
        repeat rw [if_neg hc8]
        exact KJ
  refine pg_68_251 (en_ok (by decide +kernel)) ?_
  refine pg_68_254 ?_
  refine pg_68_255 (lv' := [some (xm_r (20, 0, 0)), some (xm_i x), some (xm_i k), some (xm_i (0 : Int32))]) rfl ?_
  refine pg_68_256 rfl ?_
  refine pg_68_257 ?_
  refine pg_68_259 (fun hc => absurd hc (by decide)) (fun _ => ?_)
  refine pg_68_262 rfl ?_
  refine pg_68_263 (en_ok (by decide +kernel)) rfl ?_
  refine pg_68_266 rfl ?_
  refine pg_68_267 ?_
  refine pg_68_268 (en_ok (s := 36) (by decide +kernel)) (i := 0) (rfl : (0 : Int32) = nI 0) (by omega) (by omega) (Or.inr rfl) ?_
  refine pg_68_269 (y := (1 : Int32)) (lv' := [some (xm_r (20, 0, 0)), some (xm_i x), some (xm_i k), some (xm_i (1 : Int32))]) rfl (by decide) rfl ?_
  refine pg_68_272 ?_
  refine pg_68_256 rfl ?_
  refine pg_68_257 ?_
  refine pg_68_259 (fun hc => absurd hc (by decide)) (fun _ => ?_)
  refine pg_68_262 rfl ?_
  refine pg_68_263 (en_ok (by decide +kernel)) rfl ?_
  refine pg_68_266 rfl ?_
  refine pg_68_267 ?_
  refine pg_68_268 (en_ok (s := 36) (by decide +kernel)) (i := 1) (rfl : (1 : Int32) = nI 1) (by omega) (by omega) (Or.inr rfl) ?_
  refine pg_68_269 (y := (2 : Int32)) (lv' := [some (xm_r (20, 0, 0)), some (xm_i x), some (xm_i k), some (xm_i (2 : Int32))]) rfl (by decide) rfl ?_
  refine pg_68_272 ?_
  refine pg_68_256 rfl ?_
  refine pg_68_257 ?_
  refine pg_68_259 (fun hc => absurd hc (by decide)) (fun _ => ?_)
  refine pg_68_262 rfl ?_
  refine pg_68_263 (en_ok (by decide +kernel)) rfl ?_
  refine pg_68_266 rfl ?_
  refine pg_68_267 ?_
  refine pg_68_268 (en_ok (s := 36) (by decide +kernel)) (i := 2) (rfl : (2 : Int32) = nI 2) (by omega) (by omega) (Or.inr rfl) ?_
  refine pg_68_269 (y := (3 : Int32)) (lv' := [some (xm_r (20, 0, 0)), some (xm_i x), some (xm_i k), some (xm_i (3 : Int32))]) rfl (by decide) rfl ?_
  refine pg_68_272 ?_
  refine pg_68_256 rfl ?_
  refine pg_68_257 ?_
  refine pg_68_259 (fun hc => absurd hc (by decide)) (fun _ => ?_)
  refine pg_68_262 rfl ?_
  refine pg_68_263 (en_ok (by decide +kernel)) rfl ?_
  refine pg_68_266 rfl ?_
  refine pg_68_267 ?_
  refine pg_68_268 (en_ok (s := 36) (by decide +kernel)) (i := 3) (rfl : (3 : Int32) = nI 3) (by omega) (by omega) (Or.inr rfl) ?_
  refine pg_68_269 (y := (4 : Int32)) (lv' := [some (xm_r (20, 0, 0)), some (xm_i x), some (xm_i k), some (xm_i (4 : Int32))]) rfl (by decide) rfl ?_
  refine pg_68_272 ?_
  refine pg_68_256 rfl ?_
  refine pg_68_257 ?_
  refine pg_68_259 (fun hc => absurd hc (by decide)) (fun _ => ?_)
  refine pg_68_262 rfl ?_
  refine pg_68_263 (en_ok (by decide +kernel)) rfl ?_
  refine pg_68_266 rfl ?_
  refine pg_68_267 ?_
  refine pg_68_268 (en_ok (s := 36) (by decide +kernel)) (i := 4) (rfl : (4 : Int32) = nI 4) (by omega) (by omega) (Or.inr rfl) ?_
  refine pg_68_269 (y := (5 : Int32)) (lv' := [some (xm_r (20, 0, 0)), some (xm_i x), some (xm_i k), some (xm_i (5 : Int32))]) rfl (by decide) rfl ?_
  refine pg_68_272 ?_
  refine pg_68_256 rfl ?_
  refine pg_68_257 ?_
  refine pg_68_259 (fun hc => absurd hc (by decide)) (fun _ => ?_)
  refine pg_68_262 rfl ?_
  refine pg_68_263 (en_ok (by decide +kernel)) rfl ?_
  refine pg_68_266 rfl ?_
  refine pg_68_267 ?_
  refine pg_68_268 (en_ok (s := 36) (by decide +kernel)) (i := 5) (rfl : (5 : Int32) = nI 5) (by omega) (by omega) (Or.inr rfl) ?_
  refine pg_68_269 (y := (6 : Int32)) (lv' := [some (xm_r (20, 0, 0)), some (xm_i x), some (xm_i k), some (xm_i (6 : Int32))]) rfl (by decide) rfl ?_
  refine pg_68_272 ?_
  refine pg_68_256 rfl ?_
  refine pg_68_257 ?_
  refine pg_68_259 (fun hc => absurd hc (by decide)) (fun _ => ?_)
  refine pg_68_262 rfl ?_
  refine pg_68_263 (en_ok (by decide +kernel)) rfl ?_
  refine pg_68_266 rfl ?_
  refine pg_68_267 ?_
  refine pg_68_268 (en_ok (s := 36) (by decide +kernel)) (i := 6) (rfl : (6 : Int32) = nI 6) (by omega) (by omega) (Or.inr rfl) ?_
  refine pg_68_269 (y := (7 : Int32)) (lv' := [some (xm_r (20, 0, 0)), some (xm_i x), some (xm_i k), some (xm_i (7 : Int32))]) rfl (by decide) rfl ?_
  refine pg_68_272 ?_
  refine pg_68_256 rfl ?_
  refine pg_68_257 ?_
  refine pg_68_259 (fun hc => absurd hc (by decide)) (fun _ => ?_)
  refine pg_68_262 rfl ?_
  refine pg_68_263 (en_ok (by decide +kernel)) rfl ?_
  refine pg_68_266 rfl ?_
  refine pg_68_267 ?_
  refine pg_68_268 (en_ok (s := 36) (by decide +kernel)) (i := 7) (rfl : (7 : Int32) = nI 7) (by omega) (by omega) (Or.inr rfl) ?_
  refine pg_68_269 (y := (8 : Int32)) (lv' := [some (xm_r (20, 0, 0)), some (xm_i x), some (xm_i k), some (xm_i (8 : Int32))]) rfl (by decide) rfl ?_
  refine pg_68_272 ?_
  refine pg_68_256 rfl ?_
  refine pg_68_257 ?_
  refine pg_68_259 (fun hc => absurd hc (by decide)) (fun _ => ?_)
  refine pg_68_262 rfl ?_
  refine pg_68_263 (en_ok (by decide +kernel)) rfl ?_
  refine pg_68_266 rfl ?_
  refine pg_68_267 ?_
  refine pg_68_268 (en_ok (s := 36) (by decide +kernel)) (i := 8) (rfl : (8 : Int32) = nI 8) (by omega) (by omega) (Or.inr rfl) ?_
  refine pg_68_269 (y := (9 : Int32)) (lv' := [some (xm_r (20, 0, 0)), some (xm_i x), some (xm_i k), some (xm_i (9 : Int32))]) rfl (by decide) rfl ?_
  refine pg_68_272 ?_
  refine pg_68_256 rfl ?_
  refine pg_68_257 ?_
  refine pg_68_259 (fun hc => absurd hc (by decide)) (fun _ => ?_)
  refine pg_68_262 rfl ?_
  refine pg_68_263 (en_ok (by decide +kernel)) rfl ?_
  refine pg_68_266 rfl ?_
  refine pg_68_267 ?_
  refine pg_68_268 (en_ok (s := 36) (by decide +kernel)) (i := 9) (rfl : (9 : Int32) = nI 9) (by omega) (by omega) (Or.inr rfl) ?_
  refine pg_68_269 (y := (10 : Int32)) (lv' := [some (xm_r (20, 0, 0)), some (xm_i x), some (xm_i k), some (xm_i (10 : Int32))]) rfl (by decide) rfl ?_
  refine pg_68_272 ?_
  refine pg_68_256 rfl ?_
  refine pg_68_257 ?_
  refine pg_68_259 (fun hc => absurd hc (by decide)) (fun _ => ?_)
  refine pg_68_262 rfl ?_
  refine pg_68_263 (en_ok (by decide +kernel)) rfl ?_
  refine pg_68_266 rfl ?_
  refine pg_68_267 ?_
  refine pg_68_268 (en_ok (s := 36) (by decide +kernel)) (i := 10) (rfl : (10 : Int32) = nI 10) (by omega) (by omega) (Or.inr rfl) ?_
  refine pg_68_269 (y := (11 : Int32)) (lv' := [some (xm_r (20, 0, 0)), some (xm_i x), some (xm_i k), some (xm_i (11 : Int32))]) rfl (by decide) rfl ?_
  refine pg_68_272 ?_
  refine pg_68_256 rfl ?_
  refine pg_68_257 ?_
  refine pg_68_259 (fun hc => absurd hc (by decide)) (fun _ => ?_)
  refine pg_68_262 rfl ?_
  refine pg_68_263 (en_ok (by decide +kernel)) rfl ?_
  refine pg_68_266 rfl ?_
  refine pg_68_267 ?_
  refine pg_68_268 (en_ok (s := 36) (by decide +kernel)) (i := 11) (rfl : (11 : Int32) = nI 11) (by omega) (by omega) (Or.inr rfl) ?_
  refine pg_68_269 (y := (12 : Int32)) (lv' := [some (xm_r (20, 0, 0)), some (xm_i x), some (xm_i k), some (xm_i (12 : Int32))]) rfl (by decide) rfl ?_
  refine pg_68_272 ?_
  refine pg_68_256 rfl ?_
  refine pg_68_257 ?_
  refine pg_68_259 (fun hc => absurd hc (by decide)) (fun _ => ?_)
  refine pg_68_262 rfl ?_
  refine pg_68_263 (en_ok (by decide +kernel)) rfl ?_
  refine pg_68_266 rfl ?_
  refine pg_68_267 ?_
  refine pg_68_268 (en_ok (s := 36) (by decide +kernel)) (i := 12) (rfl : (12 : Int32) = nI 12) (by omega) (by omega) (Or.inr rfl) ?_
  refine pg_68_269 (y := (13 : Int32)) (lv' := [some (xm_r (20, 0, 0)), some (xm_i x), some (xm_i k), some (xm_i (13 : Int32))]) rfl (by decide) rfl ?_
  refine pg_68_272 ?_
  refine pg_68_256 rfl ?_
  refine pg_68_257 ?_
  refine pg_68_259 (fun hc => absurd hc (by decide)) (fun _ => ?_)
  refine pg_68_262 rfl ?_
  refine pg_68_263 (en_ok (by decide +kernel)) rfl ?_
  refine pg_68_266 rfl ?_
  refine pg_68_267 ?_
  refine pg_68_268 (en_ok (s := 36) (by decide +kernel)) (i := 13) (rfl : (13 : Int32) = nI 13) (by omega) (by omega) (Or.inr rfl) ?_
  refine pg_68_269 (y := (14 : Int32)) (lv' := [some (xm_r (20, 0, 0)), some (xm_i x), some (xm_i k), some (xm_i (14 : Int32))]) rfl (by decide) rfl ?_
  refine pg_68_272 ?_
  refine pg_68_256 rfl ?_
  refine pg_68_257 ?_
  refine pg_68_259 (fun hc => absurd hc (by decide)) (fun _ => ?_)
  refine pg_68_262 rfl ?_
  refine pg_68_263 (en_ok (by decide +kernel)) rfl ?_
  refine pg_68_266 rfl ?_
  refine pg_68_267 ?_
  refine pg_68_268 (en_ok (s := 36) (by decide +kernel)) (i := 14) (rfl : (14 : Int32) = nI 14) (by omega) (by omega) (Or.inr rfl) ?_
  refine pg_68_269 (y := (15 : Int32)) (lv' := [some (xm_r (20, 0, 0)), some (xm_i x), some (xm_i k), some (xm_i (15 : Int32))]) rfl (by decide) rfl ?_
  refine pg_68_272 ?_
  refine pg_68_256 rfl ?_
  refine pg_68_257 ?_
  refine pg_68_259 (fun hc => absurd hc (by decide)) (fun _ => ?_)
  refine pg_68_262 rfl ?_
  refine pg_68_263 (en_ok (by decide +kernel)) rfl ?_
  refine pg_68_266 rfl ?_
  refine pg_68_267 ?_
  refine pg_68_268 (en_ok (s := 36) (by decide +kernel)) (i := 15) (rfl : (15 : Int32) = nI 15) (by omega) (by omega) (Or.inr rfl) ?_
  refine pg_68_269 (y := (16 : Int32)) (lv' := [some (xm_r (20, 0, 0)), some (xm_i x), some (xm_i k), some (xm_i (16 : Int32))]) rfl (by decide) rfl ?_
  refine pg_68_272 ?_
  refine pg_68_256 rfl ?_
  refine pg_68_257 ?_
  refine pg_68_259 (fun hc => absurd hc (by decide)) (fun _ => ?_)
  refine pg_68_262 rfl ?_
  refine pg_68_263 (en_ok (by decide +kernel)) rfl ?_
  refine pg_68_266 rfl ?_
  refine pg_68_267 ?_
  refine pg_68_268 (en_ok (s := 36) (by decide +kernel)) (i := 16) (rfl : (16 : Int32) = nI 16) (by omega) (by omega) (Or.inr rfl) ?_
  refine pg_68_269 (y := (17 : Int32)) (lv' := [some (xm_r (20, 0, 0)), some (xm_i x), some (xm_i k), some (xm_i (17 : Int32))]) rfl (by decide) rfl ?_
  refine pg_68_272 ?_
  refine pg_68_256 rfl ?_
  refine pg_68_257 ?_
  refine pg_68_259 (fun hc => absurd hc (by decide)) (fun _ => ?_)
  refine pg_68_262 rfl ?_
  refine pg_68_263 (en_ok (by decide +kernel)) rfl ?_
  refine pg_68_266 rfl ?_
  refine pg_68_267 ?_
  refine pg_68_268 (en_ok (s := 36) (by decide +kernel)) (i := 17) (rfl : (17 : Int32) = nI 17) (by omega) (by omega) (Or.inr rfl) ?_
  refine pg_68_269 (y := (18 : Int32)) (lv' := [some (xm_r (20, 0, 0)), some (xm_i x), some (xm_i k), some (xm_i (18 : Int32))]) rfl (by decide) rfl ?_
  refine pg_68_272 ?_
  refine pg_68_256 rfl ?_
  refine pg_68_257 ?_
  refine pg_68_259 (fun hc => absurd hc (by decide)) (fun _ => ?_)
  refine pg_68_262 rfl ?_
  refine pg_68_263 (en_ok (by decide +kernel)) rfl ?_
  refine pg_68_266 rfl ?_
  refine pg_68_267 ?_
  refine pg_68_268 (en_ok (s := 36) (by decide +kernel)) (i := 18) (rfl : (18 : Int32) = nI 18) (by omega) (by omega) (Or.inr rfl) ?_
  refine pg_68_269 (y := (19 : Int32)) (lv' := [some (xm_r (20, 0, 0)), some (xm_i x), some (xm_i k), some (xm_i (19 : Int32))]) rfl (by decide) rfl ?_
  refine pg_68_272 ?_
  refine pg_68_256 rfl ?_
  refine pg_68_257 ?_
  refine pg_68_259 (fun hc => absurd hc (by decide)) (fun _ => ?_)
  refine pg_68_262 rfl ?_
  refine pg_68_263 (en_ok (by decide +kernel)) rfl ?_
  refine pg_68_266 rfl ?_
  refine pg_68_267 ?_
  refine pg_68_268 (en_ok (s := 36) (by decide +kernel)) (i := 19) (rfl : (19 : Int32) = nI 19) (by omega) (by omega) (Or.inr rfl) ?_
  refine pg_68_269 (y := (20 : Int32)) (lv' := [some (xm_r (20, 0, 0)), some (xm_i x), some (xm_i k), some (xm_i (20 : Int32))]) rfl (by decide) rfl ?_
  refine pg_68_272 ?_
  refine pg_68_256 rfl ?_
  refine pg_68_257 ?_
  refine pg_68_259 (fun hc => absurd hc (by decide)) (fun _ => ?_)
  refine pg_68_262 rfl ?_
  refine pg_68_263 (en_ok (by decide +kernel)) rfl ?_
  refine pg_68_266 rfl ?_
  refine pg_68_267 ?_
  refine pg_68_268 (en_ok (s := 36) (by decide +kernel)) (i := 20) (rfl : (20 : Int32) = nI 20) (by omega) (by omega) (Or.inr rfl) ?_
  refine pg_68_269 (y := (21 : Int32)) (lv' := [some (xm_r (20, 0, 0)), some (xm_i x), some (xm_i k), some (xm_i (21 : Int32))]) rfl (by decide) rfl ?_
  refine pg_68_272 ?_
  refine pg_68_256 rfl ?_
  refine pg_68_257 ?_
  refine pg_68_259 (fun hc => absurd hc (by decide)) (fun _ => ?_)
  refine pg_68_262 rfl ?_
  refine pg_68_263 (en_ok (by decide +kernel)) rfl ?_
  refine pg_68_266 rfl ?_
  refine pg_68_267 ?_
  refine pg_68_268 (en_ok (s := 36) (by decide +kernel)) (i := 21) (rfl : (21 : Int32) = nI 21) (by omega) (by omega) (Or.inr rfl) ?_
  refine pg_68_269 (y := (22 : Int32)) (lv' := [some (xm_r (20, 0, 0)), some (xm_i x), some (xm_i k), some (xm_i (22 : Int32))]) rfl (by decide) rfl ?_
  refine pg_68_272 ?_
  refine pg_68_256 rfl ?_
  refine pg_68_257 ?_
  refine pg_68_259 (fun hc => absurd hc (by decide)) (fun _ => ?_)
  refine pg_68_262 rfl ?_
  refine pg_68_263 (en_ok (by decide +kernel)) rfl ?_
  refine pg_68_266 rfl ?_
  refine pg_68_267 ?_
  refine pg_68_268 (en_ok (s := 36) (by decide +kernel)) (i := 22) (rfl : (22 : Int32) = nI 22) (by omega) (by omega) (Or.inr rfl) ?_
  refine pg_68_269 (y := (23 : Int32)) (lv' := [some (xm_r (20, 0, 0)), some (xm_i x), some (xm_i k), some (xm_i (23 : Int32))]) rfl (by decide) rfl ?_
  refine pg_68_272 ?_
  refine pg_68_256 rfl ?_
  refine pg_68_257 ?_
  refine pg_68_259 (fun hc => absurd hc (by decide)) (fun _ => ?_)
  refine pg_68_262 rfl ?_
  refine pg_68_263 (en_ok (by decide +kernel)) rfl ?_
  refine pg_68_266 rfl ?_
  refine pg_68_267 ?_
  refine pg_68_268 (en_ok (s := 36) (by decide +kernel)) (i := 23) (rfl : (23 : Int32) = nI 23) (by omega) (by omega) (Or.inr rfl) ?_
  refine pg_68_269 (y := (24 : Int32)) (lv' := [some (xm_r (20, 0, 0)), some (xm_i x), some (xm_i k), some (xm_i (24 : Int32))]) rfl (by decide) rfl ?_
  refine pg_68_272 ?_
  refine pg_68_256 rfl ?_
  refine pg_68_257 ?_
  refine pg_68_259 (fun hc => absurd hc (by decide)) (fun _ => ?_)
  refine pg_68_262 rfl ?_
  refine pg_68_263 (en_ok (by decide +kernel)) rfl ?_
  refine pg_68_266 rfl ?_
  refine pg_68_267 ?_
  refine pg_68_268 (en_ok (s := 36) (by decide +kernel)) (i := 24) (rfl : (24 : Int32) = nI 24) (by omega) (by omega) (Or.inr rfl) ?_
  refine pg_68_269 (y := (25 : Int32)) (lv' := [some (xm_r (20, 0, 0)), some (xm_i x), some (xm_i k), some (xm_i (25 : Int32))]) rfl (by decide) rfl ?_
  refine pg_68_272 ?_
  refine pg_68_256 rfl ?_
  refine pg_68_257 ?_
  refine pg_68_259 (fun hc => absurd hc (by decide)) (fun _ => ?_)
  refine pg_68_262 rfl ?_
  refine pg_68_263 (en_ok (by decide +kernel)) rfl ?_
  refine pg_68_266 rfl ?_
  refine pg_68_267 ?_
  refine pg_68_268 (en_ok (s := 36) (by decide +kernel)) (i := 25) (rfl : (25 : Int32) = nI 25) (by omega) (by omega) (Or.inr rfl) ?_
  refine pg_68_269 (y := (26 : Int32)) (lv' := [some (xm_r (20, 0, 0)), some (xm_i x), some (xm_i k), some (xm_i (26 : Int32))]) rfl (by decide) rfl ?_
  refine pg_68_272 ?_
  refine pg_68_256 rfl ?_
  refine pg_68_257 ?_
  refine pg_68_259 (fun hc => absurd hc (by decide)) (fun _ => ?_)
  refine pg_68_262 rfl ?_
  refine pg_68_263 (en_ok (by decide +kernel)) rfl ?_
  refine pg_68_266 rfl ?_
  refine pg_68_267 ?_
  refine pg_68_268 (en_ok (s := 36) (by decide +kernel)) (i := 26) (rfl : (26 : Int32) = nI 26) (by omega) (by omega) (Or.inr rfl) ?_
  refine pg_68_269 (y := (27 : Int32)) (lv' := [some (xm_r (20, 0, 0)), some (xm_i x), some (xm_i k), some (xm_i (27 : Int32))]) rfl (by decide) rfl ?_
  refine pg_68_272 ?_
  refine pg_68_256 rfl ?_
  refine pg_68_257 ?_
  refine pg_68_259 (fun hc => absurd hc (by decide)) (fun _ => ?_)
  refine pg_68_262 rfl ?_
  refine pg_68_263 (en_ok (by decide +kernel)) rfl ?_
  refine pg_68_266 rfl ?_
  refine pg_68_267 ?_
  refine pg_68_268 (en_ok (s := 36) (by decide +kernel)) (i := 27) (rfl : (27 : Int32) = nI 27) (by omega) (by omega) (Or.inr rfl) ?_
  refine pg_68_269 (y := (28 : Int32)) (lv' := [some (xm_r (20, 0, 0)), some (xm_i x), some (xm_i k), some (xm_i (28 : Int32))]) rfl (by decide) rfl ?_
  refine pg_68_272 ?_
  refine pg_68_256 rfl ?_
  refine pg_68_257 ?_
  refine pg_68_259 (fun hc => absurd hc (by decide)) (fun _ => ?_)
  refine pg_68_262 rfl ?_
  refine pg_68_263 (en_ok (by decide +kernel)) rfl ?_
  refine pg_68_266 rfl ?_
  refine pg_68_267 ?_
  refine pg_68_268 (en_ok (s := 36) (by decide +kernel)) (i := 28) (rfl : (28 : Int32) = nI 28) (by omega) (by omega) (Or.inr rfl) ?_
  refine pg_68_269 (y := (29 : Int32)) (lv' := [some (xm_r (20, 0, 0)), some (xm_i x), some (xm_i k), some (xm_i (29 : Int32))]) rfl (by decide) rfl ?_
  refine pg_68_272 ?_
  refine pg_68_256 rfl ?_
  refine pg_68_257 ?_
  refine pg_68_259 (fun hc => absurd hc (by decide)) (fun _ => ?_)
  refine pg_68_262 rfl ?_
  refine pg_68_263 (en_ok (by decide +kernel)) rfl ?_
  refine pg_68_266 rfl ?_
  refine pg_68_267 ?_
  refine pg_68_268 (en_ok (s := 36) (by decide +kernel)) (i := 29) (rfl : (29 : Int32) = nI 29) (by omega) (by omega) (Or.inr rfl) ?_
  refine pg_68_269 (y := (30 : Int32)) (lv' := [some (xm_r (20, 0, 0)), some (xm_i x), some (xm_i k), some (xm_i (30 : Int32))]) rfl (by decide) rfl ?_
  refine pg_68_272 ?_
  refine pg_68_256 rfl ?_
  refine pg_68_257 ?_
  refine pg_68_259 (fun hc => absurd hc (by decide)) (fun _ => ?_)
  refine pg_68_262 rfl ?_
  refine pg_68_263 (en_ok (by decide +kernel)) rfl ?_
  refine pg_68_266 rfl ?_
  refine pg_68_267 ?_
  refine pg_68_268 (en_ok (s := 36) (by decide +kernel)) (i := 30) (rfl : (30 : Int32) = nI 30) (by omega) (by omega) (Or.inr rfl) ?_
  refine pg_68_269 (y := (31 : Int32)) (lv' := [some (xm_r (20, 0, 0)), some (xm_i x), some (xm_i k), some (xm_i (31 : Int32))]) rfl (by decide) rfl ?_
  refine pg_68_272 ?_
  refine pg_68_256 rfl ?_
  refine pg_68_257 ?_
  refine pg_68_259 (fun hc => absurd hc (by decide)) (fun _ => ?_)
  refine pg_68_262 rfl ?_
  refine pg_68_263 (en_ok (by decide +kernel)) rfl ?_
  refine pg_68_266 rfl ?_
  refine pg_68_267 ?_
  refine pg_68_268 (en_ok (s := 36) (by decide +kernel)) (i := 31) (rfl : (31 : Int32) = nI 31) (by omega) (by omega) (Or.inr rfl) ?_
  refine pg_68_269 (y := (32 : Int32)) (lv' := [some (xm_r (20, 0, 0)), some (xm_i x), some (xm_i k), some (xm_i (32 : Int32))]) rfl (by decide) rfl ?_
  refine pg_68_272 ?_
  refine pg_68_256 rfl ?_
  refine pg_68_257 ?_
  refine pg_68_259 (fun hc => absurd hc (by decide)) (fun _ => ?_)
  refine pg_68_262 rfl ?_
  refine pg_68_263 (en_ok (by decide +kernel)) rfl ?_
  refine pg_68_266 rfl ?_
  refine pg_68_267 ?_
  refine pg_68_268 (en_ok (s := 36) (by decide +kernel)) (i := 32) (rfl : (32 : Int32) = nI 32) (by omega) (by omega) (Or.inr rfl) ?_
  refine pg_68_269 (y := (33 : Int32)) (lv' := [some (xm_r (20, 0, 0)), some (xm_i x), some (xm_i k), some (xm_i (33 : Int32))]) rfl (by decide) rfl ?_
  refine pg_68_272 ?_
  refine pg_68_256 rfl ?_
  refine pg_68_257 ?_
  refine pg_68_259 (fun hc => absurd hc (by decide)) (fun _ => ?_)
  refine pg_68_262 rfl ?_
  refine pg_68_263 (en_ok (by decide +kernel)) rfl ?_
  refine pg_68_266 rfl ?_
  refine pg_68_267 ?_
  refine pg_68_268 (en_ok (s := 36) (by decide +kernel)) (i := 33) (rfl : (33 : Int32) = nI 33) (by omega) (by omega) (Or.inr rfl) ?_
  refine pg_68_269 (y := (34 : Int32)) (lv' := [some (xm_r (20, 0, 0)), some (xm_i x), some (xm_i k), some (xm_i (34 : Int32))]) rfl (by decide) rfl ?_
  refine pg_68_272 ?_
  refine pg_68_256 rfl ?_
  refine pg_68_257 ?_
  refine pg_68_259 (fun hc => absurd hc (by decide)) (fun _ => ?_)
  refine pg_68_262 rfl ?_
  refine pg_68_263 (en_ok (by decide +kernel)) rfl ?_
  refine pg_68_266 rfl ?_
  refine pg_68_267 ?_
  refine pg_68_268 (en_ok (s := 36) (by decide +kernel)) (i := 34) (rfl : (34 : Int32) = nI 34) (by omega) (by omega) (Or.inr rfl) ?_
  refine pg_68_269 (y := (35 : Int32)) (lv' := [some (xm_r (20, 0, 0)), some (xm_i x), some (xm_i k), some (xm_i (35 : Int32))]) rfl (by decide) rfl ?_
  refine pg_68_272 ?_
  refine pg_68_256 rfl ?_
  refine pg_68_257 ?_
  refine pg_68_259 (fun hc => absurd hc (by decide)) (fun _ => ?_)
  refine pg_68_262 rfl ?_
  refine pg_68_263 (en_ok (by decide +kernel)) rfl ?_
  refine pg_68_266 rfl ?_
  refine pg_68_267 ?_
  refine pg_68_268 (en_ok (s := 36) (by decide +kernel)) (i := 35) (rfl : (35 : Int32) = nI 35) (by omega) (by omega) (Or.inr rfl) ?_
  refine pg_68_269 (y := (36 : Int32)) (lv' := [some (xm_r (20, 0, 0)), some (xm_i x), some (xm_i k), some (xm_i (36 : Int32))]) rfl (by decide) rfl ?_
  refine pg_68_272 ?_
  refine pg_68_256 rfl ?_
  refine pg_68_257 ?_
  refine pg_68_259 (fun _ => ?_) (fun hc => absurd (by decide) hc)
  exact go_eq hR.symm (pg_68_275)
def cr_36_5_0 (r : xm_I → Nat → Option xm_I) : xm_I → Nat → Option xm_I := (xm_up (xm_up (xm_up r (2, 0, 0) 0 (some (3, 0, 0))) (2, 0, 0) 1 (some (4, 0, 0))) (2, 0, 0) 2 (some (5, 0, 0)))
set_option maxRecDepth 8000 in
theorem ct_36_5_0 {L : Nat} {fi : FI} {fl : FL} {r : xm_I → Nat → Option xm_I} {d : Nat} : xm_C (en 5 L) (d + 2) true 36 [xm_r (2, 0, 0), xm_i (5 : Int32)] ((3, 23), fi, fl, r) (.inl none, ((6, 39), fi, fl, cr_36_5_0 r)) := by
  suffices key : ∀ (E : xm_E) (R : xm_O), E = en 5 L → ((.inl none, ((6, 39), fi, fl, cr_36_5_0 r)) : xm_O) = R → xm_G (en 5 L) (d + 1) true 36 0 [some (xm_r (2, 0, 0)), some (xm_i (5 : Int32))] [] ((3, 23), fi, fl, r) R from go_inr (by decide) (Nat.le_of_ble_eq_true rfl) (key _ _ rfl rfl)
  intro E R hE hR
  refine pg_36_0 rfl ?_
  refine pg_36_1 (Nat.le_of_ble_eq_true rfl) ?_
  refine pg_36_4 rfl ?_
  refine pg_36_5 rfl ?_
  refine pg_36_6 (n := 5) (rfl : (5 : Int32) = nI 5) (by decide) (en_a (a := (3, 0, 0)) (by decide +kernel)) (en_k (by decide +kernel)) ?_
  show xm_G (en 5 L) (d + 1) true 36 8 [some (xm_r (2, 0, 0)), some (xm_i (5 : Int32))] [xm_r (3, 0, 0), xm_r (2, 0, 0)] ((4, 28), fi, fl, r) R
  refine pg_36_8 (en_ok (by decide +kernel)) ?_
  refine pg_36_11 rfl ?_
  refine pg_36_12 rfl ?_
  refine pg_36_13 (n := 5) (rfl : (5 : Int32) = nI 5) (by decide) (en_a (a := (4, 0, 0)) (by decide +kernel)) (en_k (by decide +kernel)) ?_
  show xm_G (en 5 L) (d + 1) true 36 15 [some (xm_r (2, 0, 0)), some (xm_i (5 : Int32))] [xm_r (4, 0, 0), xm_r (2, 0, 0)] ((5, 33), fi, fl, (xm_up r (2, 0, 0) 0 (some (3, 0, 0)))) R
  refine pg_36_15 (en_ok (by decide +kernel)) ?_
  refine pg_36_18 rfl ?_
  refine pg_36_19 rfl ?_
  refine pg_36_20 ?_
  refine pg_36_21 ?_
  refine go_top (y := (6 : Int32)) (by decide) ?_
  refine pg_36_22 (n := 6) (rfl : (6 : Int32) = nI 6) (by decide) (en_a (a := (5, 0, 0)) (by decide +kernel)) (en_k (by decide +kernel)) ?_
  show xm_G (en 5 L) (d + 1) true 36 24 [some (xm_r (2, 0, 0)), some (xm_i (5 : Int32))] [xm_r (5, 0, 0), xm_r (2, 0, 0)] ((6, 39), fi, fl, (xm_up (xm_up r (2, 0, 0) 0 (some (3, 0, 0))) (2, 0, 0) 1 (some (4, 0, 0)))) R
  refine pg_36_24 (en_ok (by decide +kernel)) ?_
  exact go_eq hR.symm (pg_36_27)
def cf_43_5_0 (fi : FI) : FI := (xm_up (xm_up (xm_up fi (7, 0, 0) 0 (0 : Int32)) (7, 0, 0) 1 (5 : Int32)) (8, 0, 0) 2 (sp_1 (5 : Int32)))
def cr_43_5_0 (r : xm_I → Nat → Option xm_I) : xm_I → Nat → Option xm_I := (xm_up (xm_up (xm_up (xm_up (xm_up (xm_up (xm_up (xm_up (xm_up (xm_up (xm_up (xm_up (xm_up (xm_up (xm_up (xm_up (xm_up (xm_up (xm_up (xm_up (xm_up (xm_up (xm_up (xm_up (xm_up (xm_up r (7, 0, 0) 4 (some (8, 0, 0))) (9, 0, 0) 0 (some (10, 0, 0))) (7, 0, 0) 5 (some (9, 0, 0))) (7, 0, 0) 6 (some (11, 0, 0))) (9, 0, 6) 0 (some (10, 0, 6))) (11, 0, 0) 0 (some (9, 0, 6))) (9, 0, 7) 0 (some (10, 0, 7))) (11, 0, 0) 1 (some (9, 0, 7))) (9, 0, 8) 0 (some (10, 0, 8))) (11, 0, 0) 2 (some (9, 0, 8))) (9, 0, 9) 0 (some (10, 0, 9))) (11, 0, 0) 3 (some (9, 0, 9))) (9, 0, 10) 0 (some (10, 0, 10))) (11, 0, 0) 4 (some (9, 0, 10))) (7, 0, 0) 7 (some (12, 0, 0))) (9, 0, 2) 0 (some (10, 0, 2))) (12, 0, 0) 0 (some (9, 0, 2))) (9, 0, 3) 0 (some (10, 0, 3))) (12, 0, 0) 1 (some (9, 0, 3))) (9, 0, 4) 0 (some (10, 0, 4))) (12, 0, 0) 2 (some (9, 0, 4))) (9, 0, 5) 0 (some (10, 0, 5))) (12, 0, 0) 3 (some (9, 0, 5))) (9, 0, 1) 0 (some (10, 0, 1))) (7, 0, 0) 8 (some (9, 0, 1))) (7, 0, 0) 9 (some (13, 0, 0)))
set_option maxRecDepth 8000 in
theorem ct_43_5_0 {L : Nat} {fi : FI} {fl : FL} {r : xm_I → Nat → Option xm_I} {d : Nat} : xm_C (en 5 L) (d + 2) true 43 [xm_r (7, 0, 0), xm_i (0 : Int32), xm_i (5 : Int32)] ((8, 57), fi, fl, r) (.inl none, ((34, 152), cf_43_5_0 fi, fl, cr_43_5_0 r)) := by
  suffices key : ∀ (E : xm_E) (R : xm_O), E = en 5 L → ((.inl none, ((34, 152), cf_43_5_0 fi, fl, cr_43_5_0 r)) : xm_O) = R → xm_G (en 5 L) (d + 1) true 43 0 [some (xm_r (7, 0, 0)), some (xm_i (0 : Int32)), some (xm_i (5 : Int32)), none] [] ((8, 57), fi, fl, r) R from go_inr (by decide) (Nat.le_of_ble_eq_true rfl) (key _ _ rfl rfl)
  intro E R hE hR
  refine pg_43_0 rfl ?_
  refine pg_43_1 (Nat.le_of_ble_eq_true rfl) ?_
  refine pg_43_4 rfl ?_
  refine pg_43_5 rfl ?_
  refine pg_43_6 (en_ok (by decide +kernel)) ?_
  refine pg_43_9 rfl ?_
  refine pg_43_10 rfl ?_
  refine pg_43_11 (en_ok (by decide +kernel)) ?_
  refine pg_43_14 rfl ?_
  refine pg_43_15 ?_
  refine pg_43_16 (n := 4) (rfl : (4 : Int32) = nI 4) (by decide) (en_a (a := (8, 0, 0)) (by decide +kernel)) (en_k (by decide +kernel)) ?_
  show xm_G (en 5 L) (d + 1) true 43 18 [some (xm_r (7, 0, 0)), some (xm_i (0 : Int32)), some (xm_i (5 : Int32)), none] [xm_r (8, 0, 0), xm_r (7, 0, 0)] ((9, 61), (xm_up (xm_up fi (7, 0, 0) 0 (0 : Int32)) (7, 0, 0) 1 (5 : Int32)), fl, r) R
  refine pg_43_18 (en_ok (by decide +kernel)) ?_
  refine pg_43_21 rfl ?_
  refine pg_43_22 (en_ok (by decide +kernel)) rfl ?_
  refine pg_43_25 ?_
  refine pg_43_26 rfl ?_
  refine pg_43_27 (Nat.le_of_ble_eq_true rfl) (ct_1 (x := (5 : Int32))) ?_
  refine pg_43_30 (en_ok (s := 4) (by decide +kernel)) (i := 2) (rfl : (2 : Int32) = nI 2) (by omega) (by omega) ?_
  refine pg_43_31 rfl ?_
  refine pg_43_32 (a := (9, 0, 0)) (en_a (by decide +kernel)) (en_k (by decide +kernel)) ?_
  show xm_G (en 5 L) (d + 1) true 43 35 [some (xm_r (7, 0, 0)), some (xm_i (0 : Int32)), some (xm_i (5 : Int32)), none] [xm_r (9, 0, 0), xm_r (7, 0, 0)] ((10, 63), (xm_up (xm_up (xm_up fi (7, 0, 0) 0 (0 : Int32)) (7, 0, 0) 1 (5 : Int32)) (8, 0, 0) 2 (sp_1 (5 : Int32))), fl, (xm_up r (7, 0, 0) 4 (some (8, 0, 0)))) R
  refine pg_43_35 rfl ?_
  refine pg_43_36 rfl ?_
  refine pg_43_37 (Nat.le_of_ble_eq_true rfl) (ct_61 (m := 5) (b := (10, 0, 0)) (rfl : (5 : Int32) = nI 5) (by decide) (en_a (by decide +kernel)) (en_k (by decide +kernel)) (en_ok (by decide +kernel))) ?_
  show xm_G (en 5 L) (d + 1) true 43 40 [some (xm_r (7, 0, 0)), some (xm_i (0 : Int32)), some (xm_i (5 : Int32)), none] [xm_r (9, 0, 0), xm_r (7, 0, 0)] ((11, 68), (xm_up (xm_up (xm_up fi (7, 0, 0) 0 (0 : Int32)) (7, 0, 0) 1 (5 : Int32)) (8, 0, 0) 2 (sp_1 (5 : Int32))), fl, (xm_up (xm_up r (7, 0, 0) 4 (some (8, 0, 0))) (9, 0, 0) 0 (some (10, 0, 0)))) R
  refine pg_43_40 (en_ok (by decide +kernel)) ?_
  refine pg_43_43 rfl ?_
  refine pg_43_44 rfl ?_
  refine pg_43_45 (n := 5) (rfl : (5 : Int32) = nI 5) (by decide) (en_a (a := (11, 0, 0)) (by decide +kernel)) (en_k (by decide +kernel)) ?_
  show xm_G (en 5 L) (d + 1) true 43 48 [some (xm_r (7, 0, 0)), some (xm_i (0 : Int32)), some (xm_i (5 : Int32)), none] [xm_r (11, 0, 0), xm_r (7, 0, 0)] ((12, 73), (xm_up (xm_up (xm_up fi (7, 0, 0) 0 (0 : Int32)) (7, 0, 0) 1 (5 : Int32)) (8, 0, 0) 2 (sp_1 (5 : Int32))), fl, (xm_up (xm_up (xm_up r (7, 0, 0) 4 (some (8, 0, 0))) (9, 0, 0) 0 (some (10, 0, 0))) (7, 0, 0) 5 (some (9, 0, 0)))) R
  refine pg_43_48 (en_ok (by decide +kernel)) ?_
  refine pg_43_51 ?_
  refine pg_43_52 (lv' := [some (xm_r (7, 0, 0)), some (xm_i (0 : Int32)), some (xm_i (5 : Int32)), some (xm_i (0 : Int32))]) rfl ?_
  refine pg_43_53 rfl ?_
  refine pg_43_54 rfl ?_
  refine pg_43_55 (fun hc => absurd hc (by decide)) (fun _ => ?_)
  refine pg_43_58 rfl ?_
  refine pg_43_59 (en_ok (by decide +kernel)) rfl ?_
  refine pg_43_62 rfl ?_
  refine pg_43_63 (a := (9, 0, 6)) (en_a (by decide +kernel)) (en_k (by decide +kernel)) ?_
  show xm_G (en 5 L) (d + 1) true 43 66 [some (xm_r (7, 0, 0)), some (xm_i (0 : Int32)), some (xm_i (5 : Int32)), some (xm_i (0 : Int32))] [xm_r (9, 0, 6), xm_i (0 : Int32), xm_r (11, 0, 0)] ((13, 75), (xm_up (xm_up (xm_up fi (7, 0, 0) 0 (0 : Int32)) (7, 0, 0) 1 (5 : Int32)) (8, 0, 0) 2 (sp_1 (5 : Int32))), fl, (xm_up (xm_up (xm_up (xm_up r (7, 0, 0) 4 (some (8, 0, 0))) (9, 0, 0) 0 (some (10, 0, 0))) (7, 0, 0) 5 (some (9, 0, 0))) (7, 0, 0) 6 (some (11, 0, 0)))) R
  refine pg_43_66 rfl ?_
  refine pg_43_67 rfl ?_
  refine pg_43_68 (Nat.le_of_ble_eq_true rfl) (ct_61 (m := 5) (b := (10, 0, 6)) (rfl : (5 : Int32) = nI 5) (by decide) (en_a (by decide +kernel)) (en_k (by decide +kernel)) (en_ok (by decide +kernel))) ?_
  show xm_G (en 5 L) (d + 1) true 43 71 [some (xm_r (7, 0, 0)), some (xm_i (0 : Int32)), some (xm_i (5 : Int32)), some (xm_i (0 : Int32))] [xm_r (9, 0, 6), xm_i (0 : Int32), xm_r (11, 0, 0)] ((14, 80), (xm_up (xm_up (xm_up fi (7, 0, 0) 0 (0 : Int32)) (7, 0, 0) 1 (5 : Int32)) (8, 0, 0) 2 (sp_1 (5 : Int32))), fl, (xm_up (xm_up (xm_up (xm_up (xm_up r (7, 0, 0) 4 (some (8, 0, 0))) (9, 0, 0) 0 (some (10, 0, 0))) (7, 0, 0) 5 (some (9, 0, 0))) (7, 0, 0) 6 (some (11, 0, 0))) (9, 0, 6) 0 (some (10, 0, 6)))) R
  refine pg_43_71 (en_ok (t := 4) (s := 0) (by decide +kernel)) (by decide) (by decide) (en_ok (s := 5) (by decide +kernel)) (i := 0) (rfl : (0 : Int32) = nI 0) (by decide) (by decide) ?_
  refine pg_43_72 (y := (1 : Int32)) (lv' := [some (xm_r (7, 0, 0)), some (xm_i (0 : Int32)), some (xm_i (5 : Int32)), some (xm_i (1 : Int32))]) rfl (by decide) rfl ?_
  refine pg_43_75 ?_
  refine pg_43_53 rfl ?_
  refine pg_43_54 rfl ?_
  refine pg_43_55 (fun hc => absurd hc (by decide)) (fun _ => ?_)
  refine pg_43_58 rfl ?_
  refine pg_43_59 (en_ok (by decide +kernel)) rfl ?_
  refine pg_43_62 rfl ?_
  refine pg_43_63 (a := (9, 0, 7)) (en_a (by decide +kernel)) (en_k (by decide +kernel)) ?_
  show xm_G (en 5 L) (d + 1) true 43 66 [some (xm_r (7, 0, 0)), some (xm_i (0 : Int32)), some (xm_i (5 : Int32)), some (xm_i (1 : Int32))] [xm_r (9, 0, 7), xm_i (1 : Int32), xm_r (11, 0, 0)] ((15, 82), (xm_up (xm_up (xm_up fi (7, 0, 0) 0 (0 : Int32)) (7, 0, 0) 1 (5 : Int32)) (8, 0, 0) 2 (sp_1 (5 : Int32))), fl, (xm_up (xm_up (xm_up (xm_up (xm_up (xm_up r (7, 0, 0) 4 (some (8, 0, 0))) (9, 0, 0) 0 (some (10, 0, 0))) (7, 0, 0) 5 (some (9, 0, 0))) (7, 0, 0) 6 (some (11, 0, 0))) (9, 0, 6) 0 (some (10, 0, 6))) (11, 0, 0) 0 (some (9, 0, 6)))) R
  refine pg_43_66 rfl ?_
  refine pg_43_67 rfl ?_
  refine pg_43_68 (Nat.le_of_ble_eq_true rfl) (ct_61 (m := 5) (b := (10, 0, 7)) (rfl : (5 : Int32) = nI 5) (by decide) (en_a (by decide +kernel)) (en_k (by decide +kernel)) (en_ok (by decide +kernel))) ?_
  show xm_G (en 5 L) (d + 1) true 43 71 [some (xm_r (7, 0, 0)), some (xm_i (0 : Int32)), some (xm_i (5 : Int32)), some (xm_i (1 : Int32))] [xm_r (9, 0, 7), xm_i (1 : Int32), xm_r (11, 0, 0)] ((16, 87), (xm_up (xm_up (xm_up fi (7, 0, 0) 0 (0 : Int32)) (7, 0, 0) 1 (5 : Int32)) (8, 0, 0) 2 (sp_1 (5 : Int32))), fl, (xm_up (xm_up (xm_up (xm_up (xm_up (xm_up (xm_up r (7, 0, 0) 4 (some (8, 0, 0))) (9, 0, 0) 0 (some (10, 0, 0))) (7, 0, 0) 5 (some (9, 0, 0))) (7, 0, 0) 6 (some (11, 0, 0))) (9, 0, 6) 0 (some (10, 0, 6))) (11, 0, 0) 0 (some (9, 0, 6))) (9, 0, 7) 0 (some (10, 0, 7)))) R
  refine pg_43_71 (en_ok (t := 4) (s := 0) (by decide +kernel)) (by decide) (by decide) (en_ok (s := 5) (by decide +kernel)) (i := 1) (rfl : (1 : Int32) = nI 1) (by decide) (by decide) ?_
  refine pg_43_72 (y := (2 : Int32)) (lv' := [some (xm_r (7, 0, 0)), some (xm_i (0 : Int32)), some (xm_i (5 : Int32)), some (xm_i (2 : Int32))]) rfl (by decide) rfl ?_
  refine pg_43_75 ?_
  refine pg_43_53 rfl ?_
  refine pg_43_54 rfl ?_
  refine pg_43_55 (fun hc => absurd hc (by decide)) (fun _ => ?_)
  refine pg_43_58 rfl ?_
  refine pg_43_59 (en_ok (by decide +kernel)) rfl ?_
  refine pg_43_62 rfl ?_
  refine pg_43_63 (a := (9, 0, 8)) (en_a (by decide +kernel)) (en_k (by decide +kernel)) ?_
  show xm_G (en 5 L) (d + 1) true 43 66 [some (xm_r (7, 0, 0)), some (xm_i (0 : Int32)), some (xm_i (5 : Int32)), some (xm_i (2 : Int32))] [xm_r (9, 0, 8), xm_i (2 : Int32), xm_r (11, 0, 0)] ((17, 89), (xm_up (xm_up (xm_up fi (7, 0, 0) 0 (0 : Int32)) (7, 0, 0) 1 (5 : Int32)) (8, 0, 0) 2 (sp_1 (5 : Int32))), fl, (xm_up (xm_up (xm_up (xm_up (xm_up (xm_up (xm_up (xm_up r (7, 0, 0) 4 (some (8, 0, 0))) (9, 0, 0) 0 (some (10, 0, 0))) (7, 0, 0) 5 (some (9, 0, 0))) (7, 0, 0) 6 (some (11, 0, 0))) (9, 0, 6) 0 (some (10, 0, 6))) (11, 0, 0) 0 (some (9, 0, 6))) (9, 0, 7) 0 (some (10, 0, 7))) (11, 0, 0) 1 (some (9, 0, 7)))) R
  refine pg_43_66 rfl ?_
  refine pg_43_67 rfl ?_
  refine pg_43_68 (Nat.le_of_ble_eq_true rfl) (ct_61 (m := 5) (b := (10, 0, 8)) (rfl : (5 : Int32) = nI 5) (by decide) (en_a (by decide +kernel)) (en_k (by decide +kernel)) (en_ok (by decide +kernel))) ?_
  show xm_G (en 5 L) (d + 1) true 43 71 [some (xm_r (7, 0, 0)), some (xm_i (0 : Int32)), some (xm_i (5 : Int32)), some (xm_i (2 : Int32))] [xm_r (9, 0, 8), xm_i (2 : Int32), xm_r (11, 0, 0)] ((18, 94), (xm_up (xm_up (xm_up fi (7, 0, 0) 0 (0 : Int32)) (7, 0, 0) 1 (5 : Int32)) (8, 0, 0) 2 (sp_1 (5 : Int32))), fl, (xm_up (xm_up (xm_up (xm_up (xm_up (xm_up (xm_up (xm_up (xm_up r (7, 0, 0) 4 (some (8, 0, 0))) (9, 0, 0) 0 (some (10, 0, 0))) (7, 0, 0) 5 (some (9, 0, 0))) (7, 0, 0) 6 (some (11, 0, 0))) (9, 0, 6) 0 (some (10, 0, 6))) (11, 0, 0) 0 (some (9, 0, 6))) (9, 0, 7) 0 (some (10, 0, 7))) (11, 0, 0) 1 (some (9, 0, 7))) (9, 0, 8) 0 (some (10, 0, 8)))) R
  refine pg_43_71 (en_ok (t := 4) (s := 0) (by decide +kernel)) (by decide) (by decide) (en_ok (s := 5) (by decide +kernel)) (i := 2) (rfl : (2 : Int32) = nI 2) (by decide) (by decide) ?_
  refine pg_43_72 (y := (3 : Int32)) (lv' := [some (xm_r (7, 0, 0)), some (xm_i (0 : Int32)), some (xm_i (5 : Int32)), some (xm_i (3 : Int32))]) rfl (by decide) rfl ?_
  refine pg_43_75 ?_
  refine pg_43_53 rfl ?_
  refine pg_43_54 rfl ?_
  refine pg_43_55 (fun hc => absurd hc (by decide)) (fun _ => ?_)
  refine pg_43_58 rfl ?_
  refine pg_43_59 (en_ok (by decide +kernel)) rfl ?_
  refine pg_43_62 rfl ?_
  refine pg_43_63 (a := (9, 0, 9)) (en_a (by decide +kernel)) (en_k (by decide +kernel)) ?_
  show xm_G (en 5 L) (d + 1) true 43 66 [some (xm_r (7, 0, 0)), some (xm_i (0 : Int32)), some (xm_i (5 : Int32)), some (xm_i (3 : Int32))] [xm_r (9, 0, 9), xm_i (3 : Int32), xm_r (11, 0, 0)] ((19, 96), (xm_up (xm_up (xm_up fi (7, 0, 0) 0 (0 : Int32)) (7, 0, 0) 1 (5 : Int32)) (8, 0, 0) 2 (sp_1 (5 : Int32))), fl, (xm_up (xm_up (xm_up (xm_up (xm_up (xm_up (xm_up (xm_up (xm_up (xm_up r (7, 0, 0) 4 (some (8, 0, 0))) (9, 0, 0) 0 (some (10, 0, 0))) (7, 0, 0) 5 (some (9, 0, 0))) (7, 0, 0) 6 (some (11, 0, 0))) (9, 0, 6) 0 (some (10, 0, 6))) (11, 0, 0) 0 (some (9, 0, 6))) (9, 0, 7) 0 (some (10, 0, 7))) (11, 0, 0) 1 (some (9, 0, 7))) (9, 0, 8) 0 (some (10, 0, 8))) (11, 0, 0) 2 (some (9, 0, 8)))) R
  refine pg_43_66 rfl ?_
  refine pg_43_67 rfl ?_
  refine pg_43_68 (Nat.le_of_ble_eq_true rfl) (ct_61 (m := 5) (b := (10, 0, 9)) (rfl : (5 : Int32) = nI 5) (by decide) (en_a (by decide +kernel)) (en_k (by decide +kernel)) (en_ok (by decide +kernel))) ?_
  show xm_G (en 5 L) (d + 1) true 43 71 [some (xm_r (7, 0, 0)), some (xm_i (0 : Int32)), some (xm_i (5 : Int32)), some (xm_i (3 : Int32))] [xm_r (9, 0, 9), xm_i (3 : Int32), xm_r (11, 0, 0)] ((20, 101), (xm_up (xm_up (xm_up fi (7, 0, 0) 0 (0 : Int32)) (7, 0, 0) 1 (5 : Int32)) (8, 0, 0) 2 (sp_1 (5 : Int32))), fl, (xm_up (xm_up (xm_up (xm_up (xm_up (xm_up (xm_up (xm_up (xm_up (xm_up (xm_up r (7, 0, 0) 4 (some (8, 0, 0))) (9, 0, 0) 0 (some (10, 0, 0))) (7, 0, 0) 5 (some (9, 0, 0))) (7, 0, 0) 6 (some (11, 0, 0))) (9, 0, 6) 0 (some (10, 0, 6))) (11, 0, 0) 0 (some (9, 0, 6))) (9, 0, 7) 0 (some (10, 0, 7))) (11, 0, 0) 1 (some (9, 0, 7))) (9, 0, 8) 0 (some (10, 0, 8))) (11, 0, 0) 2 (some (9, 0, 8))) (9, 0, 9) 0 (some (10, 0, 9)))) R
  refine pg_43_71 (en_ok (t := 4) (s := 0) (by decide +kernel)) (by decide) (by decide) (en_ok (s := 5) (by decide +kernel)) (i := 3) (rfl : (3 : Int32) = nI 3) (by decide) (by decide) ?_
  refine pg_43_72 (y := (4 : Int32)) (lv' := [some (xm_r (7, 0, 0)), some (xm_i (0 : Int32)), some (xm_i (5 : Int32)), some (xm_i (4 : Int32))]) rfl (by decide) rfl ?_
  refine pg_43_75 ?_
  refine pg_43_53 rfl ?_
  refine pg_43_54 rfl ?_
  refine pg_43_55 (fun hc => absurd hc (by decide)) (fun _ => ?_)
  refine pg_43_58 rfl ?_
  refine pg_43_59 (en_ok (by decide +kernel)) rfl ?_
  refine pg_43_62 rfl ?_
  refine pg_43_63 (a := (9, 0, 10)) (en_a (by decide +kernel)) (en_k (by decide +kernel)) ?_
  show xm_G (en 5 L) (d + 1) true 43 66 [some (xm_r (7, 0, 0)), some (xm_i (0 : Int32)), some (xm_i (5 : Int32)), some (xm_i (4 : Int32))] [xm_r (9, 0, 10), xm_i (4 : Int32), xm_r (11, 0, 0)] ((21, 103), (xm_up (xm_up (xm_up fi (7, 0, 0) 0 (0 : Int32)) (7, 0, 0) 1 (5 : Int32)) (8, 0, 0) 2 (sp_1 (5 : Int32))), fl, (xm_up (xm_up (xm_up (xm_up (xm_up (xm_up (xm_up (xm_up (xm_up (xm_up (xm_up (xm_up r (7, 0, 0) 4 (some (8, 0, 0))) (9, 0, 0) 0 (some (10, 0, 0))) (7, 0, 0) 5 (some (9, 0, 0))) (7, 0, 0) 6 (some (11, 0, 0))) (9, 0, 6) 0 (some (10, 0, 6))) (11, 0, 0) 0 (some (9, 0, 6))) (9, 0, 7) 0 (some (10, 0, 7))) (11, 0, 0) 1 (some (9, 0, 7))) (9, 0, 8) 0 (some (10, 0, 8))) (11, 0, 0) 2 (some (9, 0, 8))) (9, 0, 9) 0 (some (10, 0, 9))) (11, 0, 0) 3 (some (9, 0, 9)))) R
  refine pg_43_66 rfl ?_
  refine pg_43_67 rfl ?_
  refine pg_43_68 (Nat.le_of_ble_eq_true rfl) (ct_61 (m := 5) (b := (10, 0, 10)) (rfl : (5 : Int32) = nI 5) (by decide) (en_a (by decide +kernel)) (en_k (by decide +kernel)) (en_ok (by decide +kernel))) ?_
  show xm_G (en 5 L) (d + 1) true 43 71 [some (xm_r (7, 0, 0)), some (xm_i (0 : Int32)), some (xm_i (5 : Int32)), some (xm_i (4 : Int32))] [xm_r (9, 0, 10), xm_i (4 : Int32), xm_r (11, 0, 0)] ((22, 108), (xm_up (xm_up (xm_up fi (7, 0, 0) 0 (0 : Int32)) (7, 0, 0) 1 (5 : Int32)) (8, 0, 0) 2 (sp_1 (5 : Int32))), fl, (xm_up (xm_up (xm_up (xm_up (xm_up (xm_up (xm_up (xm_up (xm_up (xm_up (xm_up (xm_up (xm_up r (7, 0, 0) 4 (some (8, 0, 0))) (9, 0, 0) 0 (some (10, 0, 0))) (7, 0, 0) 5 (some (9, 0, 0))) (7, 0, 0) 6 (some (11, 0, 0))) (9, 0, 6) 0 (some (10, 0, 6))) (11, 0, 0) 0 (some (9, 0, 6))) (9, 0, 7) 0 (some (10, 0, 7))) (11, 0, 0) 1 (some (9, 0, 7))) (9, 0, 8) 0 (some (10, 0, 8))) (11, 0, 0) 2 (some (9, 0, 8))) (9, 0, 9) 0 (some (10, 0, 9))) (11, 0, 0) 3 (some (9, 0, 9))) (9, 0, 10) 0 (some (10, 0, 10)))) R
  refine pg_43_71 (en_ok (t := 4) (s := 0) (by decide +kernel)) (by decide) (by decide) (en_ok (s := 5) (by decide +kernel)) (i := 4) (rfl : (4 : Int32) = nI 4) (by decide) (by decide) ?_
  refine pg_43_72 (y := (5 : Int32)) (lv' := [some (xm_r (7, 0, 0)), some (xm_i (0 : Int32)), some (xm_i (5 : Int32)), some (xm_i (5 : Int32))]) rfl (by decide) rfl ?_
  refine pg_43_75 ?_
  refine pg_43_53 rfl ?_
  refine pg_43_54 rfl ?_
  refine pg_43_55 (fun _ => ?_) (fun hc => absurd (by decide) hc)
  refine pg_43_78 rfl ?_
  refine pg_43_79 ?_
  refine pg_43_80 (n := 4) (rfl : (4 : Int32) = nI 4) (by decide) (en_a (a := (12, 0, 0)) (by decide +kernel)) (en_k (by decide +kernel)) ?_
  show xm_G (en 5 L) (d + 1) true 43 83 [some (xm_r (7, 0, 0)), some (xm_i (0 : Int32)), some (xm_i (5 : Int32)), some (xm_i (5 : Int32))] [xm_r (12, 0, 0), xm_r (7, 0, 0)] ((23, 112), (xm_up (xm_up (xm_up fi (7, 0, 0) 0 (0 : Int32)) (7, 0, 0) 1 (5 : Int32)) (8, 0, 0) 2 (sp_1 (5 : Int32))), fl, (xm_up (xm_up (xm_up (xm_up (xm_up (xm_up (xm_up (xm_up (xm_up (xm_up (xm_up (xm_up (xm_up (xm_up r (7, 0, 0) 4 (some (8, 0, 0))) (9, 0, 0) 0 (some (10, 0, 0))) (7, 0, 0) 5 (some (9, 0, 0))) (7, 0, 0) 6 (some (11, 0, 0))) (9, 0, 6) 0 (some (10, 0, 6))) (11, 0, 0) 0 (some (9, 0, 6))) (9, 0, 7) 0 (some (10, 0, 7))) (11, 0, 0) 1 (some (9, 0, 7))) (9, 0, 8) 0 (some (10, 0, 8))) (11, 0, 0) 2 (some (9, 0, 8))) (9, 0, 9) 0 (some (10, 0, 9))) (11, 0, 0) 3 (some (9, 0, 9))) (9, 0, 10) 0 (some (10, 0, 10))) (11, 0, 0) 4 (some (9, 0, 10)))) R
  refine pg_43_83 (en_ok (by decide +kernel)) ?_
  refine pg_43_86 ?_
  refine pg_43_87 (lv' := [some (xm_r (7, 0, 0)), some (xm_i (0 : Int32)), some (xm_i (5 : Int32)), some (xm_i (0 : Int32))]) rfl ?_
  refine pg_43_88 rfl ?_
  refine pg_43_89 ?_
  refine pg_43_90 (fun hc => absurd hc (by decide)) (fun _ => ?_)
  refine pg_43_93 rfl ?_
  refine pg_43_94 (en_ok (by decide +kernel)) rfl ?_
  refine pg_43_97 rfl ?_
  refine pg_43_98 (a := (9, 0, 2)) (en_a (by decide +kernel)) (en_k (by decide +kernel)) ?_
  show xm_G (en 5 L) (d + 1) true 43 101 [some (xm_r (7, 0, 0)), some (xm_i (0 : Int32)), some (xm_i (5 : Int32)), some (xm_i (0 : Int32))] [xm_r (9, 0, 2), xm_i (0 : Int32), xm_r (12, 0, 0)] ((24, 114), (xm_up (xm_up (xm_up fi (7, 0, 0) 0 (0 : Int32)) (7, 0, 0) 1 (5 : Int32)) (8, 0, 0) 2 (sp_1 (5 : Int32))), fl, (xm_up (xm_up (xm_up (xm_up (xm_up (xm_up (xm_up (xm_up (xm_up (xm_up (xm_up (xm_up (xm_up (xm_up (xm_up r (7, 0, 0) 4 (some (8, 0, 0))) (9, 0, 0) 0 (some (10, 0, 0))) (7, 0, 0) 5 (some (9, 0, 0))) (7, 0, 0) 6 (some (11, 0, 0))) (9, 0, 6) 0 (some (10, 0, 6))) (11, 0, 0) 0 (some (9, 0, 6))) (9, 0, 7) 0 (some (10, 0, 7))) (11, 0, 0) 1 (some (9, 0, 7))) (9, 0, 8) 0 (some (10, 0, 8))) (11, 0, 0) 2 (some (9, 0, 8))) (9, 0, 9) 0 (some (10, 0, 9))) (11, 0, 0) 3 (some (9, 0, 9))) (9, 0, 10) 0 (some (10, 0, 10))) (11, 0, 0) 4 (some (9, 0, 10))) (7, 0, 0) 7 (some (12, 0, 0)))) R
  refine pg_43_101 rfl ?_
  refine pg_43_102 rfl ?_
  refine pg_43_103 (Nat.le_of_ble_eq_true rfl) (ct_61 (m := 5) (b := (10, 0, 2)) (rfl : (5 : Int32) = nI 5) (by decide) (en_a (by decide +kernel)) (en_k (by decide +kernel)) (en_ok (by decide +kernel))) ?_
  show xm_G (en 5 L) (d + 1) true 43 106 [some (xm_r (7, 0, 0)), some (xm_i (0 : Int32)), some (xm_i (5 : Int32)), some (xm_i (0 : Int32))] [xm_r (9, 0, 2), xm_i (0 : Int32), xm_r (12, 0, 0)] ((25, 119), (xm_up (xm_up (xm_up fi (7, 0, 0) 0 (0 : Int32)) (7, 0, 0) 1 (5 : Int32)) (8, 0, 0) 2 (sp_1 (5 : Int32))), fl, (xm_up (xm_up (xm_up (xm_up (xm_up (xm_up (xm_up (xm_up (xm_up (xm_up (xm_up (xm_up (xm_up (xm_up (xm_up (xm_up r (7, 0, 0) 4 (some (8, 0, 0))) (9, 0, 0) 0 (some (10, 0, 0))) (7, 0, 0) 5 (some (9, 0, 0))) (7, 0, 0) 6 (some (11, 0, 0))) (9, 0, 6) 0 (some (10, 0, 6))) (11, 0, 0) 0 (some (9, 0, 6))) (9, 0, 7) 0 (some (10, 0, 7))) (11, 0, 0) 1 (some (9, 0, 7))) (9, 0, 8) 0 (some (10, 0, 8))) (11, 0, 0) 2 (some (9, 0, 8))) (9, 0, 9) 0 (some (10, 0, 9))) (11, 0, 0) 3 (some (9, 0, 9))) (9, 0, 10) 0 (some (10, 0, 10))) (11, 0, 0) 4 (some (9, 0, 10))) (7, 0, 0) 7 (some (12, 0, 0))) (9, 0, 2) 0 (some (10, 0, 2)))) R
  refine pg_43_106 (en_ok (t := 4) (s := 0) (by decide +kernel)) (by decide) (by decide) (en_ok (s := 4) (by decide +kernel)) (i := 0) (rfl : (0 : Int32) = nI 0) (by decide) (by decide) ?_
  refine pg_43_107 (y := (1 : Int32)) (lv' := [some (xm_r (7, 0, 0)), some (xm_i (0 : Int32)), some (xm_i (5 : Int32)), some (xm_i (1 : Int32))]) rfl (by decide) rfl ?_
  refine pg_43_110 ?_
  refine pg_43_88 rfl ?_
  refine pg_43_89 ?_
  refine pg_43_90 (fun hc => absurd hc (by decide)) (fun _ => ?_)
  refine pg_43_93 rfl ?_
  refine pg_43_94 (en_ok (by decide +kernel)) rfl ?_
  refine pg_43_97 rfl ?_
  refine pg_43_98 (a := (9, 0, 3)) (en_a (by decide +kernel)) (en_k (by decide +kernel)) ?_
  show xm_G (en 5 L) (d + 1) true 43 101 [some (xm_r (7, 0, 0)), some (xm_i (0 : Int32)), some (xm_i (5 : Int32)), some (xm_i (1 : Int32))] [xm_r (9, 0, 3), xm_i (1 : Int32), xm_r (12, 0, 0)] ((26, 121), (xm_up (xm_up (xm_up fi (7, 0, 0) 0 (0 : Int32)) (7, 0, 0) 1 (5 : Int32)) (8, 0, 0) 2 (sp_1 (5 : Int32))), fl, (xm_up (xm_up (xm_up (xm_up (xm_up (xm_up (xm_up (xm_up (xm_up (xm_up (xm_up (xm_up (xm_up (xm_up (xm_up (xm_up (xm_up r (7, 0, 0) 4 (some (8, 0, 0))) (9, 0, 0) 0 (some (10, 0, 0))) (7, 0, 0) 5 (some (9, 0, 0))) (7, 0, 0) 6 (some (11, 0, 0))) (9, 0, 6) 0 (some (10, 0, 6))) (11, 0, 0) 0 (some (9, 0, 6))) (9, 0, 7) 0 (some (10, 0, 7))) (11, 0, 0) 1 (some (9, 0, 7))) (9, 0, 8) 0 (some (10, 0, 8))) (11, 0, 0) 2 (some (9, 0, 8))) (9, 0, 9) 0 (some (10, 0, 9))) (11, 0, 0) 3 (some (9, 0, 9))) (9, 0, 10) 0 (some (10, 0, 10))) (11, 0, 0) 4 (some (9, 0, 10))) (7, 0, 0) 7 (some (12, 0, 0))) (9, 0, 2) 0 (some (10, 0, 2))) (12, 0, 0) 0 (some (9, 0, 2)))) R
  refine pg_43_101 rfl ?_
  refine pg_43_102 rfl ?_
  refine pg_43_103 (Nat.le_of_ble_eq_true rfl) (ct_61 (m := 5) (b := (10, 0, 3)) (rfl : (5 : Int32) = nI 5) (by decide) (en_a (by decide +kernel)) (en_k (by decide +kernel)) (en_ok (by decide +kernel))) ?_
  show xm_G (en 5 L) (d + 1) true 43 106 [some (xm_r (7, 0, 0)), some (xm_i (0 : Int32)), some (xm_i (5 : Int32)), some (xm_i (1 : Int32))] [xm_r (9, 0, 3), xm_i (1 : Int32), xm_r (12, 0, 0)] ((27, 126), (xm_up (xm_up (xm_up fi (7, 0, 0) 0 (0 : Int32)) (7, 0, 0) 1 (5 : Int32)) (8, 0, 0) 2 (sp_1 (5 : Int32))), fl, (xm_up (xm_up (xm_up (xm_up (xm_up (xm_up (xm_up (xm_up (xm_up (xm_up (xm_up (xm_up (xm_up (xm_up (xm_up (xm_up (xm_up (xm_up r (7, 0, 0) 4 (some (8, 0, 0))) (9, 0, 0) 0 (some (10, 0, 0))) (7, 0, 0) 5 (some (9, 0, 0))) (7, 0, 0) 6 (some (11, 0, 0))) (9, 0, 6) 0 (some (10, 0, 6))) (11, 0, 0) 0 (some (9, 0, 6))) (9, 0, 7) 0 (some (10, 0, 7))) (11, 0, 0) 1 (some (9, 0, 7))) (9, 0, 8) 0 (some (10, 0, 8))) (11, 0, 0) 2 (some (9, 0, 8))) (9, 0, 9) 0 (some (10, 0, 9))) (11, 0, 0) 3 (some (9, 0, 9))) (9, 0, 10) 0 (some (10, 0, 10))) (11, 0, 0) 4 (some (9, 0, 10))) (7, 0, 0) 7 (some (12, 0, 0))) (9, 0, 2) 0 (some (10, 0, 2))) (12, 0, 0) 0 (some (9, 0, 2))) (9, 0, 3) 0 (some (10, 0, 3)))) R
  refine pg_43_106 (en_ok (t := 4) (s := 0) (by decide +kernel)) (by decide) (by decide) (en_ok (s := 4) (by decide +kernel)) (i := 1) (rfl : (1 : Int32) = nI 1) (by decide) (by decide) ?_
  refine pg_43_107 (y := (2 : Int32)) (lv' := [some (xm_r (7, 0, 0)), some (xm_i (0 : Int32)), some (xm_i (5 : Int32)), some (xm_i (2 : Int32))]) rfl (by decide) rfl ?_
  refine pg_43_110 ?_
  refine pg_43_88 rfl ?_
  refine pg_43_89 ?_
  refine pg_43_90 (fun hc => absurd hc (by decide)) (fun _ => ?_)
  refine pg_43_93 rfl ?_
  refine pg_43_94 (en_ok (by decide +kernel)) rfl ?_
  refine pg_43_97 rfl ?_
  refine pg_43_98 (a := (9, 0, 4)) (en_a (by decide +kernel)) (en_k (by decide +kernel)) ?_
  show xm_G (en 5 L) (d + 1) true 43 101 [some (xm_r (7, 0, 0)), some (xm_i (0 : Int32)), some (xm_i (5 : Int32)), some (xm_i (2 : Int32))] [xm_r (9, 0, 4), xm_i (2 : Int32), xm_r (12, 0, 0)] ((28, 128), (xm_up (xm_up (xm_up fi (7, 0, 0) 0 (0 : Int32)) (7, 0, 0) 1 (5 : Int32)) (8, 0, 0) 2 (sp_1 (5 : Int32))), fl, (xm_up (xm_up (xm_up (xm_up (xm_up (xm_up (xm_up (xm_up (xm_up (xm_up (xm_up (xm_up (xm_up (xm_up (xm_up (xm_up (xm_up (xm_up (xm_up r (7, 0, 0) 4 (some (8, 0, 0))) (9, 0, 0) 0 (some (10, 0, 0))) (7, 0, 0) 5 (some (9, 0, 0))) (7, 0, 0) 6 (some (11, 0, 0))) (9, 0, 6) 0 (some (10, 0, 6))) (11, 0, 0) 0 (some (9, 0, 6))) (9, 0, 7) 0 (some (10, 0, 7))) (11, 0, 0) 1 (some (9, 0, 7))) (9, 0, 8) 0 (some (10, 0, 8))) (11, 0, 0) 2 (some (9, 0, 8))) (9, 0, 9) 0 (some (10, 0, 9))) (11, 0, 0) 3 (some (9, 0, 9))) (9, 0, 10) 0 (some (10, 0, 10))) (11, 0, 0) 4 (some (9, 0, 10))) (7, 0, 0) 7 (some (12, 0, 0))) (9, 0, 2) 0 (some (10, 0, 2))) (12, 0, 0) 0 (some (9, 0, 2))) (9, 0, 3) 0 (some (10, 0, 3))) (12, 0, 0) 1 (some (9, 0, 3)))) R
  refine pg_43_101 rfl ?_
  refine pg_43_102 rfl ?_
  refine pg_43_103 (Nat.le_of_ble_eq_true rfl) (ct_61 (m := 5) (b := (10, 0, 4)) (rfl : (5 : Int32) = nI 5) (by decide) (en_a (by decide +kernel)) (en_k (by decide +kernel)) (en_ok (by decide +kernel))) ?_
  show xm_G (en 5 L) (d + 1) true 43 106 [some (xm_r (7, 0, 0)), some (xm_i (0 : Int32)), some (xm_i (5 : Int32)), some (xm_i (2 : Int32))] [xm_r (9, 0, 4), xm_i (2 : Int32), xm_r (12, 0, 0)] ((29, 133), (xm_up (xm_up (xm_up fi (7, 0, 0) 0 (0 : Int32)) (7, 0, 0) 1 (5 : Int32)) (8, 0, 0) 2 (sp_1 (5 : Int32))), fl, (xm_up (xm_up (xm_up (xm_up (xm_up (xm_up (xm_up (xm_up (xm_up (xm_up (xm_up (xm_up (xm_up (xm_up (xm_up (xm_up (xm_up (xm_up (xm_up (xm_up r (7, 0, 0) 4 (some (8, 0, 0))) (9, 0, 0) 0 (some (10, 0, 0))) (7, 0, 0) 5 (some (9, 0, 0))) (7, 0, 0) 6 (some (11, 0, 0))) (9, 0, 6) 0 (some (10, 0, 6))) (11, 0, 0) 0 (some (9, 0, 6))) (9, 0, 7) 0 (some (10, 0, 7))) (11, 0, 0) 1 (some (9, 0, 7))) (9, 0, 8) 0 (some (10, 0, 8))) (11, 0, 0) 2 (some (9, 0, 8))) (9, 0, 9) 0 (some (10, 0, 9))) (11, 0, 0) 3 (some (9, 0, 9))) (9, 0, 10) 0 (some (10, 0, 10))) (11, 0, 0) 4 (some (9, 0, 10))) (7, 0, 0) 7 (some (12, 0, 0))) (9, 0, 2) 0 (some (10, 0, 2))) (12, 0, 0) 0 (some (9, 0, 2))) (9, 0, 3) 0 (some (10, 0, 3))) (12, 0, 0) 1 (some (9, 0, 3))) (9, 0, 4) 0 (some (10, 0, 4)))) R
  refine pg_43_106 (en_ok (t := 4) (s := 0) (by decide +kernel)) (by decide) (by decide) (en_ok (s := 4) (by decide +kernel)) (i := 2) (rfl : (2 : Int32) = nI 2) (by decide) (by decide) ?_
  refine pg_43_107 (y := (3 : Int32)) (lv' := [some (xm_r (7, 0, 0)), some (xm_i (0 : Int32)), some (xm_i (5 : Int32)), some (xm_i (3 : Int32))]) rfl (by decide) rfl ?_
  refine pg_43_110 ?_
  refine pg_43_88 rfl ?_
  refine pg_43_89 ?_
  refine pg_43_90 (fun hc => absurd hc (by decide)) (fun _ => ?_)
  refine pg_43_93 rfl ?_
  refine pg_43_94 (en_ok (by decide +kernel)) rfl ?_
  refine pg_43_97 rfl ?_
  refine pg_43_98 (a := (9, 0, 5)) (en_a (by decide +kernel)) (en_k (by decide +kernel)) ?_
  show xm_G (en 5 L) (d + 1) true 43 101 [some (xm_r (7, 0, 0)), some (xm_i (0 : Int32)), some (xm_i (5 : Int32)), some (xm_i (3 : Int32))] [xm_r (9, 0, 5), xm_i (3 : Int32), xm_r (12, 0, 0)] ((30, 135), (xm_up (xm_up (xm_up fi (7, 0, 0) 0 (0 : Int32)) (7, 0, 0) 1 (5 : Int32)) (8, 0, 0) 2 (sp_1 (5 : Int32))), fl, (xm_up (xm_up (xm_up (xm_up (xm_up (xm_up (xm_up (xm_up (xm_up (xm_up (xm_up (xm_up (xm_up (xm_up (xm_up (xm_up (xm_up (xm_up (xm_up (xm_up (xm_up r (7, 0, 0) 4 (some (8, 0, 0))) (9, 0, 0) 0 (some (10, 0, 0))) (7, 0, 0) 5 (some (9, 0, 0))) (7, 0, 0) 6 (some (11, 0, 0))) (9, 0, 6) 0 (some (10, 0, 6))) (11, 0, 0) 0 (some (9, 0, 6))) (9, 0, 7) 0 (some (10, 0, 7))) (11, 0, 0) 1 (some (9, 0, 7))) (9, 0, 8) 0 (some (10, 0, 8))) (11, 0, 0) 2 (some (9, 0, 8))) (9, 0, 9) 0 (some (10, 0, 9))) (11, 0, 0) 3 (some (9, 0, 9))) (9, 0, 10) 0 (some (10, 0, 10))) (11, 0, 0) 4 (some (9, 0, 10))) (7, 0, 0) 7 (some (12, 0, 0))) (9, 0, 2) 0 (some (10, 0, 2))) (12, 0, 0) 0 (some (9, 0, 2))) (9, 0, 3) 0 (some (10, 0, 3))) (12, 0, 0) 1 (some (9, 0, 3))) (9, 0, 4) 0 (some (10, 0, 4))) (12, 0, 0) 2 (some (9, 0, 4)))) R
  refine pg_43_101 rfl ?_
  refine pg_43_102 rfl ?_
  refine pg_43_103 (Nat.le_of_ble_eq_true rfl) (ct_61 (m := 5) (b := (10, 0, 5)) (rfl : (5 : Int32) = nI 5) (by decide) (en_a (by decide +kernel)) (en_k (by decide +kernel)) (en_ok (by decide +kernel))) ?_
  show xm_G (en 5 L) (d + 1) true 43 106 [some (xm_r (7, 0, 0)), some (xm_i (0 : Int32)), some (xm_i (5 : Int32)), some (xm_i (3 : Int32))] [xm_r (9, 0, 5), xm_i (3 : Int32), xm_r (12, 0, 0)] ((31, 140), (xm_up (xm_up (xm_up fi (7, 0, 0) 0 (0 : Int32)) (7, 0, 0) 1 (5 : Int32)) (8, 0, 0) 2 (sp_1 (5 : Int32))), fl, (xm_up (xm_up (xm_up (xm_up (xm_up (xm_up (xm_up (xm_up (xm_up (xm_up (xm_up (xm_up (xm_up (xm_up (xm_up (xm_up (xm_up (xm_up (xm_up (xm_up (xm_up (xm_up r (7, 0, 0) 4 (some (8, 0, 0))) (9, 0, 0) 0 (some (10, 0, 0))) (7, 0, 0) 5 (some (9, 0, 0))) (7, 0, 0) 6 (some (11, 0, 0))) (9, 0, 6) 0 (some (10, 0, 6))) (11, 0, 0) 0 (some (9, 0, 6))) (9, 0, 7) 0 (some (10, 0, 7))) (11, 0, 0) 1 (some (9, 0, 7))) (9, 0, 8) 0 (some (10, 0, 8))) (11, 0, 0) 2 (some (9, 0, 8))) (9, 0, 9) 0 (some (10, 0, 9))) (11, 0, 0) 3 (some (9, 0, 9))) (9, 0, 10) 0 (some (10, 0, 10))) (11, 0, 0) 4 (some (9, 0, 10))) (7, 0, 0) 7 (some (12, 0, 0))) (9, 0, 2) 0 (some (10, 0, 2))) (12, 0, 0) 0 (some (9, 0, 2))) (9, 0, 3) 0 (some (10, 0, 3))) (12, 0, 0) 1 (some (9, 0, 3))) (9, 0, 4) 0 (some (10, 0, 4))) (12, 0, 0) 2 (some (9, 0, 4))) (9, 0, 5) 0 (some (10, 0, 5)))) R
  refine pg_43_106 (en_ok (t := 4) (s := 0) (by decide +kernel)) (by decide) (by decide) (en_ok (s := 4) (by decide +kernel)) (i := 3) (rfl : (3 : Int32) = nI 3) (by decide) (by decide) ?_
  refine pg_43_107 (y := (4 : Int32)) (lv' := [some (xm_r (7, 0, 0)), some (xm_i (0 : Int32)), some (xm_i (5 : Int32)), some (xm_i (4 : Int32))]) rfl (by decide) rfl ?_
  refine pg_43_110 ?_
  refine pg_43_88 rfl ?_
  refine pg_43_89 ?_
  refine pg_43_90 (fun _ => ?_) (fun hc => absurd (by decide) hc)
  refine pg_43_113 rfl ?_
  refine pg_43_114 (a := (9, 0, 1)) (en_a (by decide +kernel)) (en_k (by decide +kernel)) ?_
  show xm_G (en 5 L) (d + 1) true 43 117 [some (xm_r (7, 0, 0)), some (xm_i (0 : Int32)), some (xm_i (5 : Int32)), some (xm_i (4 : Int32))] [xm_r (9, 0, 1), xm_r (7, 0, 0)] ((32, 142), (xm_up (xm_up (xm_up fi (7, 0, 0) 0 (0 : Int32)) (7, 0, 0) 1 (5 : Int32)) (8, 0, 0) 2 (sp_1 (5 : Int32))), fl, (xm_up (xm_up (xm_up (xm_up (xm_up (xm_up (xm_up (xm_up (xm_up (xm_up (xm_up (xm_up (xm_up (xm_up (xm_up (xm_up (xm_up (xm_up (xm_up (xm_up (xm_up (xm_up (xm_up r (7, 0, 0) 4 (some (8, 0, 0))) (9, 0, 0) 0 (some (10, 0, 0))) (7, 0, 0) 5 (some (9, 0, 0))) (7, 0, 0) 6 (some (11, 0, 0))) (9, 0, 6) 0 (some (10, 0, 6))) (11, 0, 0) 0 (some (9, 0, 6))) (9, 0, 7) 0 (some (10, 0, 7))) (11, 0, 0) 1 (some (9, 0, 7))) (9, 0, 8) 0 (some (10, 0, 8))) (11, 0, 0) 2 (some (9, 0, 8))) (9, 0, 9) 0 (some (10, 0, 9))) (11, 0, 0) 3 (some (9, 0, 9))) (9, 0, 10) 0 (some (10, 0, 10))) (11, 0, 0) 4 (some (9, 0, 10))) (7, 0, 0) 7 (some (12, 0, 0))) (9, 0, 2) 0 (some (10, 0, 2))) (12, 0, 0) 0 (some (9, 0, 2))) (9, 0, 3) 0 (some (10, 0, 3))) (12, 0, 0) 1 (some (9, 0, 3))) (9, 0, 4) 0 (some (10, 0, 4))) (12, 0, 0) 2 (some (9, 0, 4))) (9, 0, 5) 0 (some (10, 0, 5))) (12, 0, 0) 3 (some (9, 0, 5)))) R
  refine pg_43_117 rfl ?_
  refine pg_43_118 rfl ?_
  refine pg_43_119 (Nat.le_of_ble_eq_true rfl) (ct_61 (m := 5) (b := (10, 0, 1)) (rfl : (5 : Int32) = nI 5) (by decide) (en_a (by decide +kernel)) (en_k (by decide +kernel)) (en_ok (by decide +kernel))) ?_
  show xm_G (en 5 L) (d + 1) true 43 122 [some (xm_r (7, 0, 0)), some (xm_i (0 : Int32)), some (xm_i (5 : Int32)), some (xm_i (4 : Int32))] [xm_r (9, 0, 1), xm_r (7, 0, 0)] ((33, 147), (xm_up (xm_up (xm_up fi (7, 0, 0) 0 (0 : Int32)) (7, 0, 0) 1 (5 : Int32)) (8, 0, 0) 2 (sp_1 (5 : Int32))), fl, (xm_up (xm_up (xm_up (xm_up (xm_up (xm_up (xm_up (xm_up (xm_up (xm_up (xm_up (xm_up (xm_up (xm_up (xm_up (xm_up (xm_up (xm_up (xm_up (xm_up (xm_up (xm_up (xm_up (xm_up r (7, 0, 0) 4 (some (8, 0, 0))) (9, 0, 0) 0 (some (10, 0, 0))) (7, 0, 0) 5 (some (9, 0, 0))) (7, 0, 0) 6 (some (11, 0, 0))) (9, 0, 6) 0 (some (10, 0, 6))) (11, 0, 0) 0 (some (9, 0, 6))) (9, 0, 7) 0 (some (10, 0, 7))) (11, 0, 0) 1 (some (9, 0, 7))) (9, 0, 8) 0 (some (10, 0, 8))) (11, 0, 0) 2 (some (9, 0, 8))) (9, 0, 9) 0 (some (10, 0, 9))) (11, 0, 0) 3 (some (9, 0, 9))) (9, 0, 10) 0 (some (10, 0, 10))) (11, 0, 0) 4 (some (9, 0, 10))) (7, 0, 0) 7 (some (12, 0, 0))) (9, 0, 2) 0 (some (10, 0, 2))) (12, 0, 0) 0 (some (9, 0, 2))) (9, 0, 3) 0 (some (10, 0, 3))) (12, 0, 0) 1 (some (9, 0, 3))) (9, 0, 4) 0 (some (10, 0, 4))) (12, 0, 0) 2 (some (9, 0, 4))) (9, 0, 5) 0 (some (10, 0, 5))) (12, 0, 0) 3 (some (9, 0, 5))) (9, 0, 1) 0 (some (10, 0, 1)))) R
  refine pg_43_122 (en_ok (by decide +kernel)) ?_
  refine pg_43_125 rfl ?_
  refine pg_43_126 rfl ?_
  refine pg_43_127 (n := 5) (rfl : (5 : Int32) = nI 5) (by decide) (en_a (a := (13, 0, 0)) (by decide +kernel)) (en_k (by decide +kernel)) ?_
  show xm_G (en 5 L) (d + 1) true 43 129 [some (xm_r (7, 0, 0)), some (xm_i (0 : Int32)), some (xm_i (5 : Int32)), some (xm_i (4 : Int32))] [xm_r (13, 0, 0), xm_r (7, 0, 0)] ((34, 152), (xm_up (xm_up (xm_up fi (7, 0, 0) 0 (0 : Int32)) (7, 0, 0) 1 (5 : Int32)) (8, 0, 0) 2 (sp_1 (5 : Int32))), fl, (xm_up (xm_up (xm_up (xm_up (xm_up (xm_up (xm_up (xm_up (xm_up (xm_up (xm_up (xm_up (xm_up (xm_up (xm_up (xm_up (xm_up (xm_up (xm_up (xm_up (xm_up (xm_up (xm_up (xm_up (xm_up r (7, 0, 0) 4 (some (8, 0, 0))) (9, 0, 0) 0 (some (10, 0, 0))) (7, 0, 0) 5 (some (9, 0, 0))) (7, 0, 0) 6 (some (11, 0, 0))) (9, 0, 6) 0 (some (10, 0, 6))) (11, 0, 0) 0 (some (9, 0, 6))) (9, 0, 7) 0 (some (10, 0, 7))) (11, 0, 0) 1 (some (9, 0, 7))) (9, 0, 8) 0 (some (10, 0, 8))) (11, 0, 0) 2 (some (9, 0, 8))) (9, 0, 9) 0 (some (10, 0, 9))) (11, 0, 0) 3 (some (9, 0, 9))) (9, 0, 10) 0 (some (10, 0, 10))) (11, 0, 0) 4 (some (9, 0, 10))) (7, 0, 0) 7 (some (12, 0, 0))) (9, 0, 2) 0 (some (10, 0, 2))) (12, 0, 0) 0 (some (9, 0, 2))) (9, 0, 3) 0 (some (10, 0, 3))) (12, 0, 0) 1 (some (9, 0, 3))) (9, 0, 4) 0 (some (10, 0, 4))) (12, 0, 0) 2 (some (9, 0, 4))) (9, 0, 5) 0 (some (10, 0, 5))) (12, 0, 0) 3 (some (9, 0, 5))) (9, 0, 1) 0 (some (10, 0, 1))) (7, 0, 0) 8 (some (9, 0, 1)))) R
  refine pg_43_129 (en_ok (by decide +kernel)) ?_
  exact go_eq hR.symm (pg_43_132)
def cf_43_5_1 (fi : FI) : FI := (xm_up (xm_up (xm_up fi (7, 1, 0) 0 (1 : Int32)) (7, 1, 0) 1 (5 : Int32)) (8, 1, 0) 2 (sp_1 (5 : Int32)))
def cr_43_5_1 (r : xm_I → Nat → Option xm_I) : xm_I → Nat → Option xm_I := (xm_up (xm_up (xm_up (xm_up (xm_up (xm_up (xm_up (xm_up (xm_up (xm_up (xm_up (xm_up (xm_up (xm_up (xm_up (xm_up (xm_up (xm_up (xm_up (xm_up (xm_up (xm_up (xm_up (xm_up (xm_up (xm_up r (7, 1, 0) 4 (some (8, 1, 0))) (9, 1, 0) 0 (some (10, 1, 0))) (7, 1, 0) 5 (some (9, 1, 0))) (7, 1, 0) 6 (some (11, 1, 0))) (9, 1, 6) 0 (some (10, 1, 6))) (11, 1, 0) 0 (some (9, 1, 6))) (9, 1, 7) 0 (some (10, 1, 7))) (11, 1, 0) 1 (some (9, 1, 7))) (9, 1, 8) 0 (some (10, 1, 8))) (11, 1, 0) 2 (some (9, 1, 8))) (9, 1, 9) 0 (some (10, 1, 9))) (11, 1, 0) 3 (some (9, 1, 9))) (9, 1, 10) 0 (some (10, 1, 10))) (11, 1, 0) 4 (some (9, 1, 10))) (7, 1, 0) 7 (some (12, 1, 0))) (9, 1, 2) 0 (some (10, 1, 2))) (12, 1, 0) 0 (some (9, 1, 2))) (9, 1, 3) 0 (some (10, 1, 3))) (12, 1, 0) 1 (some (9, 1, 3))) (9, 1, 4) 0 (some (10, 1, 4))) (12, 1, 0) 2 (some (9, 1, 4))) (9, 1, 5) 0 (some (10, 1, 5))) (12, 1, 0) 3 (some (9, 1, 5))) (9, 1, 1) 0 (some (10, 1, 1))) (7, 1, 0) 8 (some (9, 1, 1))) (7, 1, 0) 9 (some (13, 1, 0)))
set_option maxRecDepth 8000 in
theorem ct_43_5_1 {L : Nat} {fi : FI} {fl : FL} {r : xm_I → Nat → Option xm_I} {d : Nat} : xm_C (en 5 L) (d + 2) true 43 [xm_r (7, 1, 0), xm_i (1 : Int32), xm_i (5 : Int32)] ((35, 165), fi, fl, r) (.inl none, ((61, 260), cf_43_5_1 fi, fl, cr_43_5_1 r)) := by
  suffices key : ∀ (E : xm_E) (R : xm_O), E = en 5 L → ((.inl none, ((61, 260), cf_43_5_1 fi, fl, cr_43_5_1 r)) : xm_O) = R → xm_G (en 5 L) (d + 1) true 43 0 [some (xm_r (7, 1, 0)), some (xm_i (1 : Int32)), some (xm_i (5 : Int32)), none] [] ((35, 165), fi, fl, r) R from go_inr (by decide) (Nat.le_of_ble_eq_true rfl) (key _ _ rfl rfl)
  intro E R hE hR
  refine pg_43_0 rfl ?_
  refine pg_43_1 (Nat.le_of_ble_eq_true rfl) ?_
  refine pg_43_4 rfl ?_
  refine pg_43_5 rfl ?_
  refine pg_43_6 (en_ok (by decide +kernel)) ?_
  refine pg_43_9 rfl ?_
  refine pg_43_10 rfl ?_
  refine pg_43_11 (en_ok (by decide +kernel)) ?_
  refine pg_43_14 rfl ?_
  refine pg_43_15 ?_
  refine pg_43_16 (n := 4) (rfl : (4 : Int32) = nI 4) (by decide) (en_a (a := (8, 1, 0)) (by decide +kernel)) (en_k (by decide +kernel)) ?_
  show xm_G (en 5 L) (d + 1) true 43 18 [some (xm_r (7, 1, 0)), some (xm_i (1 : Int32)), some (xm_i (5 : Int32)), none] [xm_r (8, 1, 0), xm_r (7, 1, 0)] ((36, 169), (xm_up (xm_up fi (7, 1, 0) 0 (1 : Int32)) (7, 1, 0) 1 (5 : Int32)), fl, r) R
  refine pg_43_18 (en_ok (by decide +kernel)) ?_
  refine pg_43_21 rfl ?_
  refine pg_43_22 (en_ok (by decide +kernel)) rfl ?_
  refine pg_43_25 ?_
  refine pg_43_26 rfl ?_
  refine pg_43_27 (Nat.le_of_ble_eq_true rfl) (ct_1 (x := (5 : Int32))) ?_
  refine pg_43_30 (en_ok (s := 4) (by decide +kernel)) (i := 2) (rfl : (2 : Int32) = nI 2) (by omega) (by omega) ?_
  refine pg_43_31 rfl ?_
  refine pg_43_32 (a := (9, 1, 0)) (en_a (by decide +kernel)) (en_k (by decide +kernel)) ?_
  show xm_G (en 5 L) (d + 1) true 43 35 [some (xm_r (7, 1, 0)), some (xm_i (1 : Int32)), some (xm_i (5 : Int32)), none] [xm_r (9, 1, 0), xm_r (7, 1, 0)] ((37, 171), (xm_up (xm_up (xm_up fi (7, 1, 0) 0 (1 : Int32)) (7, 1, 0) 1 (5 : Int32)) (8, 1, 0) 2 (sp_1 (5 : Int32))), fl, (xm_up r (7, 1, 0) 4 (some (8, 1, 0)))) R
  refine pg_43_35 rfl ?_
  refine pg_43_36 rfl ?_
  refine pg_43_37 (Nat.le_of_ble_eq_true rfl) (ct_61 (m := 5) (b := (10, 1, 0)) (rfl : (5 : Int32) = nI 5) (by decide) (en_a (by decide +kernel)) (en_k (by decide +kernel)) (en_ok (by decide +kernel))) ?_
  show xm_G (en 5 L) (d + 1) true 43 40 [some (xm_r (7, 1, 0)), some (xm_i (1 : Int32)), some (xm_i (5 : Int32)), none] [xm_r (9, 1, 0), xm_r (7, 1, 0)] ((38, 176), (xm_up (xm_up (xm_up fi (7, 1, 0) 0 (1 : Int32)) (7, 1, 0) 1 (5 : Int32)) (8, 1, 0) 2 (sp_1 (5 : Int32))), fl, (xm_up (xm_up r (7, 1, 0) 4 (some (8, 1, 0))) (9, 1, 0) 0 (some (10, 1, 0)))) R
  refine pg_43_40 (en_ok (by decide +kernel)) ?_
  refine pg_43_43 rfl ?_
  refine pg_43_44 rfl ?_
  refine pg_43_45 (n := 5) (rfl : (5 : Int32) = nI 5) (by decide) (en_a (a := (11, 1, 0)) (by decide +kernel)) (en_k (by decide +kernel)) ?_
  show xm_G (en 5 L) (d + 1) true 43 48 [some (xm_r (7, 1, 0)), some (xm_i (1 : Int32)), some (xm_i (5 : Int32)), none] [xm_r (11, 1, 0), xm_r (7, 1, 0)] ((39, 181), (xm_up (xm_up (xm_up fi (7, 1, 0) 0 (1 : Int32)) (7, 1, 0) 1 (5 : Int32)) (8, 1, 0) 2 (sp_1 (5 : Int32))), fl, (xm_up (xm_up (xm_up r (7, 1, 0) 4 (some (8, 1, 0))) (9, 1, 0) 0 (some (10, 1, 0))) (7, 1, 0) 5 (some (9, 1, 0)))) R
  refine pg_43_48 (en_ok (by decide +kernel)) ?_
  refine pg_43_51 ?_
  refine pg_43_52 (lv' := [some (xm_r (7, 1, 0)), some (xm_i (1 : Int32)), some (xm_i (5 : Int32)), some (xm_i (0 : Int32))]) rfl ?_
  refine pg_43_53 rfl ?_
  refine pg_43_54 rfl ?_
  refine pg_43_55 (fun hc => absurd hc (by decide)) (fun _ => ?_)
  refine pg_43_58 rfl ?_
  refine pg_43_59 (en_ok (by decide +kernel)) rfl ?_
  refine pg_43_62 rfl ?_
  refine pg_43_63 (a := (9, 1, 6)) (en_a (by decide +kernel)) (en_k (by decide +kernel)) ?_
  show xm_G (en 5 L) (d + 1) true 43 66 [some (xm_r (7, 1, 0)), some (xm_i (1 : Int32)), some (xm_i (5 : Int32)), some (xm_i (0 : Int32))] [xm_r (9, 1, 6), xm_i (0 : Int32), xm_r (11, 1, 0)] ((40, 183), (xm_up (xm_up (xm_up fi (7, 1, 0) 0 (1 : Int32)) (7, 1, 0) 1 (5 : Int32)) (8, 1, 0) 2 (sp_1 (5 : Int32))), fl, (xm_up (xm_up (xm_up (xm_up r (7, 1, 0) 4 (some (8, 1, 0))) (9, 1, 0) 0 (some (10, 1, 0))) (7, 1, 0) 5 (some (9, 1, 0))) (7, 1, 0) 6 (some (11, 1, 0)))) R
  refine pg_43_66 rfl ?_
  refine pg_43_67 rfl ?_
  refine pg_43_68 (Nat.le_of_ble_eq_true rfl) (ct_61 (m := 5) (b := (10, 1, 6)) (rfl : (5 : Int32) = nI 5) (by decide) (en_a (by decide +kernel)) (en_k (by decide +kernel)) (en_ok (by decide +kernel))) ?_
  show xm_G (en 5 L) (d + 1) true 43 71 [some (xm_r (7, 1, 0)), some (xm_i (1 : Int32)), some (xm_i (5 : Int32)), some (xm_i (0 : Int32))] [xm_r (9, 1, 6), xm_i (0 : Int32), xm_r (11, 1, 0)] ((41, 188), (xm_up (xm_up (xm_up fi (7, 1, 0) 0 (1 : Int32)) (7, 1, 0) 1 (5 : Int32)) (8, 1, 0) 2 (sp_1 (5 : Int32))), fl, (xm_up (xm_up (xm_up (xm_up (xm_up r (7, 1, 0) 4 (some (8, 1, 0))) (9, 1, 0) 0 (some (10, 1, 0))) (7, 1, 0) 5 (some (9, 1, 0))) (7, 1, 0) 6 (some (11, 1, 0))) (9, 1, 6) 0 (some (10, 1, 6)))) R
  refine pg_43_71 (en_ok (t := 4) (s := 0) (by decide +kernel)) (by decide) (by decide) (en_ok (s := 5) (by decide +kernel)) (i := 0) (rfl : (0 : Int32) = nI 0) (by decide) (by decide) ?_
  refine pg_43_72 (y := (1 : Int32)) (lv' := [some (xm_r (7, 1, 0)), some (xm_i (1 : Int32)), some (xm_i (5 : Int32)), some (xm_i (1 : Int32))]) rfl (by decide) rfl ?_
  refine pg_43_75 ?_
  refine pg_43_53 rfl ?_
  refine pg_43_54 rfl ?_
  refine pg_43_55 (fun hc => absurd hc (by decide)) (fun _ => ?_)
  refine pg_43_58 rfl ?_
  refine pg_43_59 (en_ok (by decide +kernel)) rfl ?_
  refine pg_43_62 rfl ?_
  refine pg_43_63 (a := (9, 1, 7)) (en_a (by decide +kernel)) (en_k (by decide +kernel)) ?_
  show xm_G (en 5 L) (d + 1) true 43 66 [some (xm_r (7, 1, 0)), some (xm_i (1 : Int32)), some (xm_i (5 : Int32)), some (xm_i (1 : Int32))] [xm_r (9, 1, 7), xm_i (1 : Int32), xm_r (11, 1, 0)] ((42, 190), (xm_up (xm_up (xm_up fi (7, 1, 0) 0 (1 : Int32)) (7, 1, 0) 1 (5 : Int32)) (8, 1, 0) 2 (sp_1 (5 : Int32))), fl, (xm_up (xm_up (xm_up (xm_up (xm_up (xm_up r (7, 1, 0) 4 (some (8, 1, 0))) (9, 1, 0) 0 (some (10, 1, 0))) (7, 1, 0) 5 (some (9, 1, 0))) (7, 1, 0) 6 (some (11, 1, 0))) (9, 1, 6) 0 (some (10, 1, 6))) (11, 1, 0) 0 (some (9, 1, 6)))) R
  refine pg_43_66 rfl ?_
  refine pg_43_67 rfl ?_
  refine pg_43_68 (Nat.le_of_ble_eq_true rfl) (ct_61 (m := 5) (b := (10, 1, 7)) (rfl : (5 : Int32) = nI 5) (by decide) (en_a (by decide +kernel)) (en_k (by decide +kernel)) (en_ok (by decide +kernel))) ?_
  show xm_G (en 5 L) (d + 1) true 43 71 [some (xm_r (7, 1, 0)), some (xm_i (1 : Int32)), some (xm_i (5 : Int32)), some (xm_i (1 : Int32))] [xm_r (9, 1, 7), xm_i (1 : Int32), xm_r (11, 1, 0)] ((43, 195), (xm_up (xm_up (xm_up fi (7, 1, 0) 0 (1 : Int32)) (7, 1, 0) 1 (5 : Int32)) (8, 1, 0) 2 (sp_1 (5 : Int32))), fl, (xm_up (xm_up (xm_up (xm_up (xm_up (xm_up (xm_up r (7, 1, 0) 4 (some (8, 1, 0))) (9, 1, 0) 0 (some (10, 1, 0))) (7, 1, 0) 5 (some (9, 1, 0))) (7, 1, 0) 6 (some (11, 1, 0))) (9, 1, 6) 0 (some (10, 1, 6))) (11, 1, 0) 0 (some (9, 1, 6))) (9, 1, 7) 0 (some (10, 1, 7)))) R
  refine pg_43_71 (en_ok (t := 4) (s := 0) (by decide +kernel)) (by decide) (by decide) (en_ok (s := 5) (by decide +kernel)) (i := 1) (rfl : (1 : Int32) = nI 1) (by decide) (by decide) ?_
  refine pg_43_72 (y := (2 : Int32)) (lv' := [some (xm_r (7, 1, 0)), some (xm_i (1 : Int32)), some (xm_i (5 : Int32)), some (xm_i (2 : Int32))]) rfl (by decide) rfl ?_
  refine pg_43_75 ?_
  refine pg_43_53 rfl ?_
  refine pg_43_54 rfl ?_
  refine pg_43_55 (fun hc => absurd hc (by decide)) (fun _ => ?_)
  refine pg_43_58 rfl ?_
  refine pg_43_59 (en_ok (by decide +kernel)) rfl ?_
  refine pg_43_62 rfl ?_
  refine pg_43_63 (a := (9, 1, 8)) (en_a (by decide +kernel)) (en_k (by decide +kernel)) ?_
  show xm_G (en 5 L) (d + 1) true 43 66 [some (xm_r (7, 1, 0)), some (xm_i (1 : Int32)), some (xm_i (5 : Int32)), some (xm_i (2 : Int32))] [xm_r (9, 1, 8), xm_i (2 : Int32), xm_r (11, 1, 0)] ((44, 197), (xm_up (xm_up (xm_up fi (7, 1, 0) 0 (1 : Int32)) (7, 1, 0) 1 (5 : Int32)) (8, 1, 0) 2 (sp_1 (5 : Int32))), fl, (xm_up (xm_up (xm_up (xm_up (xm_up (xm_up (xm_up (xm_up r (7, 1, 0) 4 (some (8, 1, 0))) (9, 1, 0) 0 (some (10, 1, 0))) (7, 1, 0) 5 (some (9, 1, 0))) (7, 1, 0) 6 (some (11, 1, 0))) (9, 1, 6) 0 (some (10, 1, 6))) (11, 1, 0) 0 (some (9, 1, 6))) (9, 1, 7) 0 (some (10, 1, 7))) (11, 1, 0) 1 (some (9, 1, 7)))) R
  refine pg_43_66 rfl ?_
  refine pg_43_67 rfl ?_
  refine pg_43_68 (Nat.le_of_ble_eq_true rfl) (ct_61 (m := 5) (b := (10, 1, 8)) (rfl : (5 : Int32) = nI 5) (by decide) (en_a (by decide +kernel)) (en_k (by decide +kernel)) (en_ok (by decide +kernel))) ?_
  show xm_G (en 5 L) (d + 1) true 43 71 [some (xm_r (7, 1, 0)), some (xm_i (1 : Int32)), some (xm_i (5 : Int32)), some (xm_i (2 : Int32))] [xm_r (9, 1, 8), xm_i (2 : Int32), xm_r (11, 1, 0)] ((45, 202), (xm_up (xm_up (xm_up fi (7, 1, 0) 0 (1 : Int32)) (7, 1, 0) 1 (5 : Int32)) (8, 1, 0) 2 (sp_1 (5 : Int32))), fl, (xm_up (xm_up (xm_up (xm_up (xm_up (xm_up (xm_up (xm_up (xm_up r (7, 1, 0) 4 (some (8, 1, 0))) (9, 1, 0) 0 (some (10, 1, 0))) (7, 1, 0) 5 (some (9, 1, 0))) (7, 1, 0) 6 (some (11, 1, 0))) (9, 1, 6) 0 (some (10, 1, 6))) (11, 1, 0) 0 (some (9, 1, 6))) (9, 1, 7) 0 (some (10, 1, 7))) (11, 1, 0) 1 (some (9, 1, 7))) (9, 1, 8) 0 (some (10, 1, 8)))) R
  refine pg_43_71 (en_ok (t := 4) (s := 0) (by decide +kernel)) (by decide) (by decide) (en_ok (s := 5) (by decide +kernel)) (i := 2) (rfl : (2 : Int32) = nI 2) (by decide) (by decide) ?_
  refine pg_43_72 (y := (3 : Int32)) (lv' := [some (xm_r (7, 1, 0)), some (xm_i (1 : Int32)), some (xm_i (5 : Int32)), some (xm_i (3 : Int32))]) rfl (by decide) rfl ?_
  refine pg_43_75 ?_
  refine pg_43_53 rfl ?_
  refine pg_43_54 rfl ?_
  refine pg_43_55 (fun hc => absurd hc (by decide)) (fun _ => ?_)
  refine pg_43_58 rfl ?_
  refine pg_43_59 (en_ok (by decide +kernel)) rfl ?_
  refine pg_43_62 rfl ?_
  refine pg_43_63 (a := (9, 1, 9)) (en_a (by decide +kernel)) (en_k (by decide +kernel)) ?_
  show xm_G (en 5 L) (d + 1) true 43 66 [some (xm_r (7, 1, 0)), some (xm_i (1 : Int32)), some (xm_i (5 : Int32)), some (xm_i (3 : Int32))] [xm_r (9, 1, 9), xm_i (3 : Int32), xm_r (11, 1, 0)] ((46, 204), (xm_up (xm_up (xm_up fi (7, 1, 0) 0 (1 : Int32)) (7, 1, 0) 1 (5 : Int32)) (8, 1, 0) 2 (sp_1 (5 : Int32))), fl, (xm_up (xm_up (xm_up (xm_up (xm_up (xm_up (xm_up (xm_up (xm_up (xm_up r (7, 1, 0) 4 (some (8, 1, 0))) (9, 1, 0) 0 (some (10, 1, 0))) (7, 1, 0) 5 (some (9, 1, 0))) (7, 1, 0) 6 (some (11, 1, 0))) (9, 1, 6) 0 (some (10, 1, 6))) (11, 1, 0) 0 (some (9, 1, 6))) (9, 1, 7) 0 (some (10, 1, 7))) (11, 1, 0) 1 (some (9, 1, 7))) (9, 1, 8) 0 (some (10, 1, 8))) (11, 1, 0) 2 (some (9, 1, 8)))) R
  refine pg_43_66 rfl ?_
  refine pg_43_67 rfl ?_
  refine pg_43_68 (Nat.le_of_ble_eq_true rfl) (ct_61 (m := 5) (b := (10, 1, 9)) (rfl : (5 : Int32) = nI 5) (by decide) (en_a (by decide +kernel)) (en_k (by decide +kernel)) (en_ok (by decide +kernel))) ?_
  show xm_G (en 5 L) (d + 1) true 43 71 [some (xm_r (7, 1, 0)), some (xm_i (1 : Int32)), some (xm_i (5 : Int32)), some (xm_i (3 : Int32))] [xm_r (9, 1, 9), xm_i (3 : Int32), xm_r (11, 1, 0)] ((47, 209), (xm_up (xm_up (xm_up fi (7, 1, 0) 0 (1 : Int32)) (7, 1, 0) 1 (5 : Int32)) (8, 1, 0) 2 (sp_1 (5 : Int32))), fl, (xm_up (xm_up (xm_up (xm_up (xm_up (xm_up (xm_up (xm_up (xm_up (xm_up (xm_up r (7, 1, 0) 4 (some (8, 1, 0))) (9, 1, 0) 0 (some (10, 1, 0))) (7, 1, 0) 5 (some (9, 1, 0))) (7, 1, 0) 6 (some (11, 1, 0))) (9, 1, 6) 0 (some (10, 1, 6))) (11, 1, 0) 0 (some (9, 1, 6))) (9, 1, 7) 0 (some (10, 1, 7))) (11, 1, 0) 1 (some (9, 1, 7))) (9, 1, 8) 0 (some (10, 1, 8))) (11, 1, 0) 2 (some (9, 1, 8))) (9, 1, 9) 0 (some (10, 1, 9)))) R
  refine pg_43_71 (en_ok (t := 4) (s := 0) (by decide +kernel)) (by decide) (by decide) (en_ok (s := 5) (by decide +kernel)) (i := 3) (rfl : (3 : Int32) = nI 3) (by decide) (by decide) ?_
  refine pg_43_72 (y := (4 : Int32)) (lv' := [some (xm_r (7, 1, 0)), some (xm_i (1 : Int32)), some (xm_i (5 : Int32)), some (xm_i (4 : Int32))]) rfl (by decide) rfl ?_
  refine pg_43_75 ?_
  refine pg_43_53 rfl ?_
  refine pg_43_54 rfl ?_
  refine pg_43_55 (fun hc => absurd hc (by decide)) (fun _ => ?_)
  refine pg_43_58 rfl ?_
  refine pg_43_59 (en_ok (by decide +kernel)) rfl ?_
  refine pg_43_62 rfl ?_
  refine pg_43_63 (a := (9, 1, 10)) (en_a (by decide +kernel)) (en_k (by decide +kernel)) ?_
  show xm_G (en 5 L) (d + 1) true 43 66 [some (xm_r (7, 1, 0)), some (xm_i (1 : Int32)), some (xm_i (5 : Int32)), some (xm_i (4 : Int32))] [xm_r (9, 1, 10), xm_i (4 : Int32), xm_r (11, 1, 0)] ((48, 211), (xm_up (xm_up (xm_up fi (7, 1, 0) 0 (1 : Int32)) (7, 1, 0) 1 (5 : Int32)) (8, 1, 0) 2 (sp_1 (5 : Int32))), fl, (xm_up (xm_up (xm_up (xm_up (xm_up (xm_up (xm_up (xm_up (xm_up (xm_up (xm_up (xm_up r (7, 1, 0) 4 (some (8, 1, 0))) (9, 1, 0) 0 (some (10, 1, 0))) (7, 1, 0) 5 (some (9, 1, 0))) (7, 1, 0) 6 (some (11, 1, 0))) (9, 1, 6) 0 (some (10, 1, 6))) (11, 1, 0) 0 (some (9, 1, 6))) (9, 1, 7) 0 (some (10, 1, 7))) (11, 1, 0) 1 (some (9, 1, 7))) (9, 1, 8) 0 (some (10, 1, 8))) (11, 1, 0) 2 (some (9, 1, 8))) (9, 1, 9) 0 (some (10, 1, 9))) (11, 1, 0) 3 (some (9, 1, 9)))) R
  refine pg_43_66 rfl ?_
  refine pg_43_67 rfl ?_
  refine pg_43_68 (Nat.le_of_ble_eq_true rfl) (ct_61 (m := 5) (b := (10, 1, 10)) (rfl : (5 : Int32) = nI 5) (by decide) (en_a (by decide +kernel)) (en_k (by decide +kernel)) (en_ok (by decide +kernel))) ?_
  show xm_G (en 5 L) (d + 1) true 43 71 [some (xm_r (7, 1, 0)), some (xm_i (1 : Int32)), some (xm_i (5 : Int32)), some (xm_i (4 : Int32))] [xm_r (9, 1, 10), xm_i (4 : Int32), xm_r (11, 1, 0)] ((49, 216), (xm_up (xm_up (xm_up fi (7, 1, 0) 0 (1 : Int32)) (7, 1, 0) 1 (5 : Int32)) (8, 1, 0) 2 (sp_1 (5 : Int32))), fl, (xm_up (xm_up (xm_up (xm_up (xm_up (xm_up (xm_up (xm_up (xm_up (xm_up (xm_up (xm_up (xm_up r (7, 1, 0) 4 (some (8, 1, 0))) (9, 1, 0) 0 (some (10, 1, 0))) (7, 1, 0) 5 (some (9, 1, 0))) (7, 1, 0) 6 (some (11, 1, 0))) (9, 1, 6) 0 (some (10, 1, 6))) (11, 1, 0) 0 (some (9, 1, 6))) (9, 1, 7) 0 (some (10, 1, 7))) (11, 1, 0) 1 (some (9, 1, 7))) (9, 1, 8) 0 (some (10, 1, 8))) (11, 1, 0) 2 (some (9, 1, 8))) (9, 1, 9) 0 (some (10, 1, 9))) (11, 1, 0) 3 (some (9, 1, 9))) (9, 1, 10) 0 (some (10, 1, 10)))) R
  refine pg_43_71 (en_ok (t := 4) (s := 0) (by decide +kernel)) (by decide) (by decide) (en_ok (s := 5) (by decide +kernel)) (i := 4) (rfl : (4 : Int32) = nI 4) (by decide) (by decide) ?_
  refine pg_43_72 (y := (5 : Int32)) (lv' := [some (xm_r (7, 1, 0)), some (xm_i (1 : Int32)), some (xm_i (5 : Int32)), some (xm_i (5 : Int32))]) rfl (by decide) rfl ?_
  refine pg_43_75 ?_
  refine pg_43_53 rfl ?_
  refine pg_43_54 rfl ?_
  refine pg_43_55 (fun _ => ?_) (fun hc => absurd (by decide) hc)
  refine pg_43_78 rfl ?_
  refine pg_43_79 ?_
  refine pg_43_80 (n := 4) (rfl : (4 : Int32) = nI 4) (by decide) (en_a (a := (12, 1, 0)) (by decide +kernel)) (en_k (by decide +kernel)) ?_
  show xm_G (en 5 L) (d + 1) true 43 83 [some (xm_r (7, 1, 0)), some (xm_i (1 : Int32)), some (xm_i (5 : Int32)), some (xm_i (5 : Int32))] [xm_r (12, 1, 0), xm_r (7, 1, 0)] ((50, 220), (xm_up (xm_up (xm_up fi (7, 1, 0) 0 (1 : Int32)) (7, 1, 0) 1 (5 : Int32)) (8, 1, 0) 2 (sp_1 (5 : Int32))), fl, (xm_up (xm_up (xm_up (xm_up (xm_up (xm_up (xm_up (xm_up (xm_up (xm_up (xm_up (xm_up (xm_up (xm_up r (7, 1, 0) 4 (some (8, 1, 0))) (9, 1, 0) 0 (some (10, 1, 0))) (7, 1, 0) 5 (some (9, 1, 0))) (7, 1, 0) 6 (some (11, 1, 0))) (9, 1, 6) 0 (some (10, 1, 6))) (11, 1, 0) 0 (some (9, 1, 6))) (9, 1, 7) 0 (some (10, 1, 7))) (11, 1, 0) 1 (some (9, 1, 7))) (9, 1, 8) 0 (some (10, 1, 8))) (11, 1, 0) 2 (some (9, 1, 8))) (9, 1, 9) 0 (some (10, 1, 9))) (11, 1, 0) 3 (some (9, 1, 9))) (9, 1, 10) 0 (some (10, 1, 10))) (11, 1, 0) 4 (some (9, 1, 10)))) R
  refine pg_43_83 (en_ok (by decide +kernel)) ?_
  refine pg_43_86 ?_
  refine pg_43_87 (lv' := [some (xm_r (7, 1, 0)), some (xm_i (1 : Int32)), some (xm_i (5 : Int32)), some (xm_i (0 : Int32))]) rfl ?_
  refine pg_43_88 rfl ?_
  refine pg_43_89 ?_
  refine pg_43_90 (fun hc => absurd hc (by decide)) (fun _ => ?_)
  refine pg_43_93 rfl ?_
  refine pg_43_94 (en_ok (by decide +kernel)) rfl ?_
  refine pg_43_97 rfl ?_
  refine pg_43_98 (a := (9, 1, 2)) (en_a (by decide +kernel)) (en_k (by decide +kernel)) ?_
  show xm_G (en 5 L) (d + 1) true 43 101 [some (xm_r (7, 1, 0)), some (xm_i (1 : Int32)), some (xm_i (5 : Int32)), some (xm_i (0 : Int32))] [xm_r (9, 1, 2), xm_i (0 : Int32), xm_r (12, 1, 0)] ((51, 222), (xm_up (xm_up (xm_up fi (7, 1, 0) 0 (1 : Int32)) (7, 1, 0) 1 (5 : Int32)) (8, 1, 0) 2 (sp_1 (5 : Int32))), fl, (xm_up (xm_up (xm_up (xm_up (xm_up (xm_up (xm_up (xm_up (xm_up (xm_up (xm_up (xm_up (xm_up (xm_up (xm_up r (7, 1, 0) 4 (some (8, 1, 0))) (9, 1, 0) 0 (some (10, 1, 0))) (7, 1, 0) 5 (some (9, 1, 0))) (7, 1, 0) 6 (some (11, 1, 0))) (9, 1, 6) 0 (some (10, 1, 6))) (11, 1, 0) 0 (some (9, 1, 6))) (9, 1, 7) 0 (some (10, 1, 7))) (11, 1, 0) 1 (some (9, 1, 7))) (9, 1, 8) 0 (some (10, 1, 8))) (11, 1, 0) 2 (some (9, 1, 8))) (9, 1, 9) 0 (some (10, 1, 9))) (11, 1, 0) 3 (some (9, 1, 9))) (9, 1, 10) 0 (some (10, 1, 10))) (11, 1, 0) 4 (some (9, 1, 10))) (7, 1, 0) 7 (some (12, 1, 0)))) R
  refine pg_43_101 rfl ?_
  refine pg_43_102 rfl ?_
  refine pg_43_103 (Nat.le_of_ble_eq_true rfl) (ct_61 (m := 5) (b := (10, 1, 2)) (rfl : (5 : Int32) = nI 5) (by decide) (en_a (by decide +kernel)) (en_k (by decide +kernel)) (en_ok (by decide +kernel))) ?_
  show xm_G (en 5 L) (d + 1) true 43 106 [some (xm_r (7, 1, 0)), some (xm_i (1 : Int32)), some (xm_i (5 : Int32)), some (xm_i (0 : Int32))] [xm_r (9, 1, 2), xm_i (0 : Int32), xm_r (12, 1, 0)] ((52, 227), (xm_up (xm_up (xm_up fi (7, 1, 0) 0 (1 : Int32)) (7, 1, 0) 1 (5 : Int32)) (8, 1, 0) 2 (sp_1 (5 : Int32))), fl, (xm_up (xm_up (xm_up (xm_up (xm_up (xm_up (xm_up (xm_up (xm_up (xm_up (xm_up (xm_up (xm_up (xm_up (xm_up (xm_up r (7, 1, 0) 4 (some (8, 1, 0))) (9, 1, 0) 0 (some (10, 1, 0))) (7, 1, 0) 5 (some (9, 1, 0))) (7, 1, 0) 6 (some (11, 1, 0))) (9, 1, 6) 0 (some (10, 1, 6))) (11, 1, 0) 0 (some (9, 1, 6))) (9, 1, 7) 0 (some (10, 1, 7))) (11, 1, 0) 1 (some (9, 1, 7))) (9, 1, 8) 0 (some (10, 1, 8))) (11, 1, 0) 2 (some (9, 1, 8))) (9, 1, 9) 0 (some (10, 1, 9))) (11, 1, 0) 3 (some (9, 1, 9))) (9, 1, 10) 0 (some (10, 1, 10))) (11, 1, 0) 4 (some (9, 1, 10))) (7, 1, 0) 7 (some (12, 1, 0))) (9, 1, 2) 0 (some (10, 1, 2)))) R
  refine pg_43_106 (en_ok (t := 4) (s := 0) (by decide +kernel)) (by decide) (by decide) (en_ok (s := 4) (by decide +kernel)) (i := 0) (rfl : (0 : Int32) = nI 0) (by decide) (by decide) ?_
  refine pg_43_107 (y := (1 : Int32)) (lv' := [some (xm_r (7, 1, 0)), some (xm_i (1 : Int32)), some (xm_i (5 : Int32)), some (xm_i (1 : Int32))]) rfl (by decide) rfl ?_
  refine pg_43_110 ?_
  refine pg_43_88 rfl ?_
  refine pg_43_89 ?_
  refine pg_43_90 (fun hc => absurd hc (by decide)) (fun _ => ?_)
  refine pg_43_93 rfl ?_
  refine pg_43_94 (en_ok (by decide +kernel)) rfl ?_
  refine pg_43_97 rfl ?_
  refine pg_43_98 (a := (9, 1, 3)) (en_a (by decide +kernel)) (en_k (by decide +kernel)) ?_
  show xm_G (en 5 L) (d + 1) true 43 101 [some (xm_r (7, 1, 0)), some (xm_i (1 : Int32)), some (xm_i (5 : Int32)), some (xm_i (1 : Int32))] [xm_r (9, 1, 3), xm_i (1 : Int32), xm_r (12, 1, 0)] ((53, 229), (xm_up (xm_up (xm_up fi (7, 1, 0) 0 (1 : Int32)) (7, 1, 0) 1 (5 : Int32)) (8, 1, 0) 2 (sp_1 (5 : Int32))), fl, (xm_up (xm_up (xm_up (xm_up (xm_up (xm_up (xm_up (xm_up (xm_up (xm_up (xm_up (xm_up (xm_up (xm_up (xm_up (xm_up (xm_up r (7, 1, 0) 4 (some (8, 1, 0))) (9, 1, 0) 0 (some (10, 1, 0))) (7, 1, 0) 5 (some (9, 1, 0))) (7, 1, 0) 6 (some (11, 1, 0))) (9, 1, 6) 0 (some (10, 1, 6))) (11, 1, 0) 0 (some (9, 1, 6))) (9, 1, 7) 0 (some (10, 1, 7))) (11, 1, 0) 1 (some (9, 1, 7))) (9, 1, 8) 0 (some (10, 1, 8))) (11, 1, 0) 2 (some (9, 1, 8))) (9, 1, 9) 0 (some (10, 1, 9))) (11, 1, 0) 3 (some (9, 1, 9))) (9, 1, 10) 0 (some (10, 1, 10))) (11, 1, 0) 4 (some (9, 1, 10))) (7, 1, 0) 7 (some (12, 1, 0))) (9, 1, 2) 0 (some (10, 1, 2))) (12, 1, 0) 0 (some (9, 1, 2)))) R
  refine pg_43_101 rfl ?_
  refine pg_43_102 rfl ?_
  refine pg_43_103 (Nat.le_of_ble_eq_true rfl) (ct_61 (m := 5) (b := (10, 1, 3)) (rfl : (5 : Int32) = nI 5) (by decide) (en_a (by decide +kernel)) (en_k (by decide +kernel)) (en_ok (by decide +kernel))) ?_
  show xm_G (en 5 L) (d + 1) true 43 106 [some (xm_r (7, 1, 0)), some (xm_i (1 : Int32)), some (xm_i (5 : Int32)), some (xm_i (1 : Int32))] [xm_r (9, 1, 3), xm_i (1 : Int32), xm_r (12, 1, 0)] ((54, 234), (xm_up (xm_up (xm_up fi (7, 1, 0) 0 (1 : Int32)) (7, 1, 0) 1 (5 : Int32)) (8, 1, 0) 2 (sp_1 (5 : Int32))), fl, (xm_up (xm_up (xm_up (xm_up (xm_up (xm_up (xm_up (xm_up (xm_up (xm_up (xm_up (xm_up (xm_up (xm_up (xm_up (xm_up (xm_up (xm_up r (7, 1, 0) 4 (some (8, 1, 0))) (9, 1, 0) 0 (some (10, 1, 0))) (7, 1, 0) 5 (some (9, 1, 0))) (7, 1, 0) 6 (some (11, 1, 0))) (9, 1, 6) 0 (some (10, 1, 6))) (11, 1, 0) 0 (some (9, 1, 6))) (9, 1, 7) 0 (some (10, 1, 7))) (11, 1, 0) 1 (some (9, 1, 7))) (9, 1, 8) 0 (some (10, 1, 8))) (11, 1, 0) 2 (some (9, 1, 8))) (9, 1, 9) 0 (some (10, 1, 9))) (11, 1, 0) 3 (some (9, 1, 9))) (9, 1, 10) 0 (some (10, 1, 10))) (11, 1, 0) 4 (some (9, 1, 10))) (7, 1, 0) 7 (some (12, 1, 0))) (9, 1, 2) 0 (some (10, 1, 2))) (12, 1, 0) 0 (some (9, 1, 2))) (9, 1, 3) 0 (some (10, 1, 3)))) R
  refine pg_43_106 (en_ok (t := 4) (s := 0) (by decide +kernel)) (by decide) (by decide) (en_ok (s := 4) (by decide +kernel)) (i := 1) (rfl : (1 : Int32) = nI 1) (by decide) (by decide) ?_
  refine pg_43_107 (y := (2 : Int32)) (lv' := [some (xm_r (7, 1, 0)), some (xm_i (1 : Int32)), some (xm_i (5 : Int32)), some (xm_i (2 : Int32))]) rfl (by decide) rfl ?_
  refine pg_43_110 ?_
  refine pg_43_88 rfl ?_
  refine pg_43_89 ?_
  refine pg_43_90 (fun hc => absurd hc (by decide)) (fun _ => ?_)
  refine pg_43_93 rfl ?_
  refine pg_43_94 (en_ok (by decide +kernel)) rfl ?_
  refine pg_43_97 rfl ?_
  refine pg_43_98 (a := (9, 1, 4)) (en_a (by decide +kernel)) (en_k (by decide +kernel)) ?_
  show xm_G (en 5 L) (d + 1) true 43 101 [some (xm_r (7, 1, 0)), some (xm_i (1 : Int32)), some (xm_i (5 : Int32)), some (xm_i (2 : Int32))] [xm_r (9, 1, 4), xm_i (2 : Int32), xm_r (12, 1, 0)] ((55, 236), (xm_up (xm_up (xm_up fi (7, 1, 0) 0 (1 : Int32)) (7, 1, 0) 1 (5 : Int32)) (8, 1, 0) 2 (sp_1 (5 : Int32))), fl, (xm_up (xm_up (xm_up (xm_up (xm_up (xm_up (xm_up (xm_up (xm_up (xm_up (xm_up (xm_up (xm_up (xm_up (xm_up (xm_up (xm_up (xm_up (xm_up r (7, 1, 0) 4 (some (8, 1, 0))) (9, 1, 0) 0 (some (10, 1, 0))) (7, 1, 0) 5 (some (9, 1, 0))) (7, 1, 0) 6 (some (11, 1, 0))) (9, 1, 6) 0 (some (10, 1, 6))) (11, 1, 0) 0 (some (9, 1, 6))) (9, 1, 7) 0 (some (10, 1, 7))) (11, 1, 0) 1 (some (9, 1, 7))) (9, 1, 8) 0 (some (10, 1, 8))) (11, 1, 0) 2 (some (9, 1, 8))) (9, 1, 9) 0 (some (10, 1, 9))) (11, 1, 0) 3 (some (9, 1, 9))) (9, 1, 10) 0 (some (10, 1, 10))) (11, 1, 0) 4 (some (9, 1, 10))) (7, 1, 0) 7 (some (12, 1, 0))) (9, 1, 2) 0 (some (10, 1, 2))) (12, 1, 0) 0 (some (9, 1, 2))) (9, 1, 3) 0 (some (10, 1, 3))) (12, 1, 0) 1 (some (9, 1, 3)))) R
  refine pg_43_101 rfl ?_
  refine pg_43_102 rfl ?_
  refine pg_43_103 (Nat.le_of_ble_eq_true rfl) (ct_61 (m := 5) (b := (10, 1, 4)) (rfl : (5 : Int32) = nI 5) (by decide) (en_a (by decide +kernel)) (en_k (by decide +kernel)) (en_ok (by decide +kernel))) ?_
  show xm_G (en 5 L) (d + 1) true 43 106 [some (xm_r (7, 1, 0)), some (xm_i (1 : Int32)), some (xm_i (5 : Int32)), some (xm_i (2 : Int32))] [xm_r (9, 1, 4), xm_i (2 : Int32), xm_r (12, 1, 0)] ((56, 241), (xm_up (xm_up (xm_up fi (7, 1, 0) 0 (1 : Int32)) (7, 1, 0) 1 (5 : Int32)) (8, 1, 0) 2 (sp_1 (5 : Int32))), fl, (xm_up (xm_up (xm_up (xm_up (xm_up (xm_up (xm_up (xm_up (xm_up (xm_up (xm_up (xm_up (xm_up (xm_up (xm_up (xm_up (xm_up (xm_up (xm_up (xm_up r (7, 1, 0) 4 (some (8, 1, 0))) (9, 1, 0) 0 (some (10, 1, 0))) (7, 1, 0) 5 (some (9, 1, 0))) (7, 1, 0) 6 (some (11, 1, 0))) (9, 1, 6) 0 (some (10, 1, 6))) (11, 1, 0) 0 (some (9, 1, 6))) (9, 1, 7) 0 (some (10, 1, 7))) (11, 1, 0) 1 (some (9, 1, 7))) (9, 1, 8) 0 (some (10, 1, 8))) (11, 1, 0) 2 (some (9, 1, 8))) (9, 1, 9) 0 (some (10, 1, 9))) (11, 1, 0) 3 (some (9, 1, 9))) (9, 1, 10) 0 (some (10, 1, 10))) (11, 1, 0) 4 (some (9, 1, 10))) (7, 1, 0) 7 (some (12, 1, 0))) (9, 1, 2) 0 (some (10, 1, 2))) (12, 1, 0) 0 (some (9, 1, 2))) (9, 1, 3) 0 (some (10, 1, 3))) (12, 1, 0) 1 (some (9, 1, 3))) (9, 1, 4) 0 (some (10, 1, 4)))) R
  refine pg_43_106 (en_ok (t := 4) (s := 0) (by decide +kernel)) (by decide) (by decide) (en_ok (s := 4) (by decide +kernel)) (i := 2) (rfl : (2 : Int32) = nI 2) (by decide) (by decide) ?_
  refine pg_43_107 (y := (3 : Int32)) (lv' := [some (xm_r (7, 1, 0)), some (xm_i (1 : Int32)), some (xm_i (5 : Int32)), some (xm_i (3 : Int32))]) rfl (by decide) rfl ?_
  refine pg_43_110 ?_
  refine pg_43_88 rfl ?_
  refine pg_43_89 ?_
  refine pg_43_90 (fun hc => absurd hc (by decide)) (fun _ => ?_)
  refine pg_43_93 rfl ?_
  refine pg_43_94 (en_ok (by decide +kernel)) rfl ?_
  refine pg_43_97 rfl ?_
  refine pg_43_98 (a := (9, 1, 5)) (en_a (by decide +kernel)) (en_k (by decide +kernel)) ?_
  show xm_G (en 5 L) (d + 1) true 43 101 [some (xm_r (7, 1, 0)), some (xm_i (1 : Int32)), some (xm_i (5 : Int32)), some (xm_i (3 : Int32))] [xm_r (9, 1, 5), xm_i (3 : Int32), xm_r (12, 1, 0)] ((57, 243), (xm_up (xm_up (xm_up fi (7, 1, 0) 0 (1 : Int32)) (7, 1, 0) 1 (5 : Int32)) (8, 1, 0) 2 (sp_1 (5 : Int32))), fl, (xm_up (xm_up (xm_up (xm_up (xm_up (xm_up (xm_up (xm_up (xm_up (xm_up (xm_up (xm_up (xm_up (xm_up (xm_up (xm_up (xm_up (xm_up (xm_up (xm_up (xm_up r (7, 1, 0) 4 (some (8, 1, 0))) (9, 1, 0) 0 (some (10, 1, 0))) (7, 1, 0) 5 (some (9, 1, 0))) (7, 1, 0) 6 (some (11, 1, 0))) (9, 1, 6) 0 (some (10, 1, 6))) (11, 1, 0) 0 (some (9, 1, 6))) (9, 1, 7) 0 (some (10, 1, 7))) (11, 1, 0) 1 (some (9, 1, 7))) (9, 1, 8) 0 (some (10, 1, 8))) (11, 1, 0) 2 (some (9, 1, 8))) (9, 1, 9) 0 (some (10, 1, 9))) (11, 1, 0) 3 (some (9, 1, 9))) (9, 1, 10) 0 (some (10, 1, 10))) (11, 1, 0) 4 (some (9, 1, 10))) (7, 1, 0) 7 (some (12, 1, 0))) (9, 1, 2) 0 (some (10, 1, 2))) (12, 1, 0) 0 (some (9, 1, 2))) (9, 1, 3) 0 (some (10, 1, 3))) (12, 1, 0) 1 (some (9, 1, 3))) (9, 1, 4) 0 (some (10, 1, 4))) (12, 1, 0) 2 (some (9, 1, 4)))) R
  refine pg_43_101 rfl ?_
  refine pg_43_102 rfl ?_
  refine pg_43_103 (Nat.le_of_ble_eq_true rfl) (ct_61 (m := 5) (b := (10, 1, 5)) (rfl : (5 : Int32) = nI 5) (by decide) (en_a (by decide +kernel)) (en_k (by decide +kernel)) (en_ok (by decide +kernel))) ?_
  show xm_G (en 5 L) (d + 1) true 43 106 [some (xm_r (7, 1, 0)), some (xm_i (1 : Int32)), some (xm_i (5 : Int32)), some (xm_i (3 : Int32))] [xm_r (9, 1, 5), xm_i (3 : Int32), xm_r (12, 1, 0)] ((58, 248), (xm_up (xm_up (xm_up fi (7, 1, 0) 0 (1 : Int32)) (7, 1, 0) 1 (5 : Int32)) (8, 1, 0) 2 (sp_1 (5 : Int32))), fl, (xm_up (xm_up (xm_up (xm_up (xm_up (xm_up (xm_up (xm_up (xm_up (xm_up (xm_up (xm_up (xm_up (xm_up (xm_up (xm_up (xm_up (xm_up (xm_up (xm_up (xm_up (xm_up r (7, 1, 0) 4 (some (8, 1, 0))) (9, 1, 0) 0 (some (10, 1, 0))) (7, 1, 0) 5 (some (9, 1, 0))) (7, 1, 0) 6 (some (11, 1, 0))) (9, 1, 6) 0 (some (10, 1, 6))) (11, 1, 0) 0 (some (9, 1, 6))) (9, 1, 7) 0 (some (10, 1, 7))) (11, 1, 0) 1 (some (9, 1, 7))) (9, 1, 8) 0 (some (10, 1, 8))) (11, 1, 0) 2 (some (9, 1, 8))) (9, 1, 9) 0 (some (10, 1, 9))) (11, 1, 0) 3 (some (9, 1, 9))) (9, 1, 10) 0 (some (10, 1, 10))) (11, 1, 0) 4 (some (9, 1, 10))) (7, 1, 0) 7 (some (12, 1, 0))) (9, 1, 2) 0 (some (10, 1, 2))) (12, 1, 0) 0 (some (9, 1, 2))) (9, 1, 3) 0 (some (10, 1, 3))) (12, 1, 0) 1 (some (9, 1, 3))) (9, 1, 4) 0 (some (10, 1, 4))) (12, 1, 0) 2 (some (9, 1, 4))) (9, 1, 5) 0 (some (10, 1, 5)))) R
  refine pg_43_106 (en_ok (t := 4) (s := 0) (by decide +kernel)) (by decide) (by decide) (en_ok (s := 4) (by decide +kernel)) (i := 3) (rfl : (3 : Int32) = nI 3) (by decide) (by decide) ?_
  refine pg_43_107 (y := (4 : Int32)) (lv' := [some (xm_r (7, 1, 0)), some (xm_i (1 : Int32)), some (xm_i (5 : Int32)), some (xm_i (4 : Int32))]) rfl (by decide) rfl ?_
  refine pg_43_110 ?_
  refine pg_43_88 rfl ?_
  refine pg_43_89 ?_
  refine pg_43_90 (fun _ => ?_) (fun hc => absurd (by decide) hc)
  refine pg_43_113 rfl ?_
  refine pg_43_114 (a := (9, 1, 1)) (en_a (by decide +kernel)) (en_k (by decide +kernel)) ?_
  show xm_G (en 5 L) (d + 1) true 43 117 [some (xm_r (7, 1, 0)), some (xm_i (1 : Int32)), some (xm_i (5 : Int32)), some (xm_i (4 : Int32))] [xm_r (9, 1, 1), xm_r (7, 1, 0)] ((59, 250), (xm_up (xm_up (xm_up fi (7, 1, 0) 0 (1 : Int32)) (7, 1, 0) 1 (5 : Int32)) (8, 1, 0) 2 (sp_1 (5 : Int32))), fl, (xm_up (xm_up (xm_up (xm_up (xm_up (xm_up (xm_up (xm_up (xm_up (xm_up (xm_up (xm_up (xm_up (xm_up (xm_up (xm_up (xm_up (xm_up (xm_up (xm_up (xm_up (xm_up (xm_up r (7, 1, 0) 4 (some (8, 1, 0))) (9, 1, 0) 0 (some (10, 1, 0))) (7, 1, 0) 5 (some (9, 1, 0))) (7, 1, 0) 6 (some (11, 1, 0))) (9, 1, 6) 0 (some (10, 1, 6))) (11, 1, 0) 0 (some (9, 1, 6))) (9, 1, 7) 0 (some (10, 1, 7))) (11, 1, 0) 1 (some (9, 1, 7))) (9, 1, 8) 0 (some (10, 1, 8))) (11, 1, 0) 2 (some (9, 1, 8))) (9, 1, 9) 0 (some (10, 1, 9))) (11, 1, 0) 3 (some (9, 1, 9))) (9, 1, 10) 0 (some (10, 1, 10))) (11, 1, 0) 4 (some (9, 1, 10))) (7, 1, 0) 7 (some (12, 1, 0))) (9, 1, 2) 0 (some (10, 1, 2))) (12, 1, 0) 0 (some (9, 1, 2))) (9, 1, 3) 0 (some (10, 1, 3))) (12, 1, 0) 1 (some (9, 1, 3))) (9, 1, 4) 0 (some (10, 1, 4))) (12, 1, 0) 2 (some (9, 1, 4))) (9, 1, 5) 0 (some (10, 1, 5))) (12, 1, 0) 3 (some (9, 1, 5)))) R
  refine pg_43_117 rfl ?_
  refine pg_43_118 rfl ?_
  refine pg_43_119 (Nat.le_of_ble_eq_true rfl) (ct_61 (m := 5) (b := (10, 1, 1)) (rfl : (5 : Int32) = nI 5) (by decide) (en_a (by decide +kernel)) (en_k (by decide +kernel)) (en_ok (by decide +kernel))) ?_
  show xm_G (en 5 L) (d + 1) true 43 122 [some (xm_r (7, 1, 0)), some (xm_i (1 : Int32)), some (xm_i (5 : Int32)), some (xm_i (4 : Int32))] [xm_r (9, 1, 1), xm_r (7, 1, 0)] ((60, 255), (xm_up (xm_up (xm_up fi (7, 1, 0) 0 (1 : Int32)) (7, 1, 0) 1 (5 : Int32)) (8, 1, 0) 2 (sp_1 (5 : Int32))), fl, (xm_up (xm_up (xm_up (xm_up (xm_up (xm_up (xm_up (xm_up (xm_up (xm_up (xm_up (xm_up (xm_up (xm_up (xm_up (xm_up (xm_up (xm_up (xm_up (xm_up (xm_up (xm_up (xm_up (xm_up r (7, 1, 0) 4 (some (8, 1, 0))) (9, 1, 0) 0 (some (10, 1, 0))) (7, 1, 0) 5 (some (9, 1, 0))) (7, 1, 0) 6 (some (11, 1, 0))) (9, 1, 6) 0 (some (10, 1, 6))) (11, 1, 0) 0 (some (9, 1, 6))) (9, 1, 7) 0 (some (10, 1, 7))) (11, 1, 0) 1 (some (9, 1, 7))) (9, 1, 8) 0 (some (10, 1, 8))) (11, 1, 0) 2 (some (9, 1, 8))) (9, 1, 9) 0 (some (10, 1, 9))) (11, 1, 0) 3 (some (9, 1, 9))) (9, 1, 10) 0 (some (10, 1, 10))) (11, 1, 0) 4 (some (9, 1, 10))) (7, 1, 0) 7 (some (12, 1, 0))) (9, 1, 2) 0 (some (10, 1, 2))) (12, 1, 0) 0 (some (9, 1, 2))) (9, 1, 3) 0 (some (10, 1, 3))) (12, 1, 0) 1 (some (9, 1, 3))) (9, 1, 4) 0 (some (10, 1, 4))) (12, 1, 0) 2 (some (9, 1, 4))) (9, 1, 5) 0 (some (10, 1, 5))) (12, 1, 0) 3 (some (9, 1, 5))) (9, 1, 1) 0 (some (10, 1, 1)))) R
  refine pg_43_122 (en_ok (by decide +kernel)) ?_
  refine pg_43_125 rfl ?_
  refine pg_43_126 rfl ?_
  refine pg_43_127 (n := 5) (rfl : (5 : Int32) = nI 5) (by decide) (en_a (a := (13, 1, 0)) (by decide +kernel)) (en_k (by decide +kernel)) ?_
  show xm_G (en 5 L) (d + 1) true 43 129 [some (xm_r (7, 1, 0)), some (xm_i (1 : Int32)), some (xm_i (5 : Int32)), some (xm_i (4 : Int32))] [xm_r (13, 1, 0), xm_r (7, 1, 0)] ((61, 260), (xm_up (xm_up (xm_up fi (7, 1, 0) 0 (1 : Int32)) (7, 1, 0) 1 (5 : Int32)) (8, 1, 0) 2 (sp_1 (5 : Int32))), fl, (xm_up (xm_up (xm_up (xm_up (xm_up (xm_up (xm_up (xm_up (xm_up (xm_up (xm_up (xm_up (xm_up (xm_up (xm_up (xm_up (xm_up (xm_up (xm_up (xm_up (xm_up (xm_up (xm_up (xm_up (xm_up r (7, 1, 0) 4 (some (8, 1, 0))) (9, 1, 0) 0 (some (10, 1, 0))) (7, 1, 0) 5 (some (9, 1, 0))) (7, 1, 0) 6 (some (11, 1, 0))) (9, 1, 6) 0 (some (10, 1, 6))) (11, 1, 0) 0 (some (9, 1, 6))) (9, 1, 7) 0 (some (10, 1, 7))) (11, 1, 0) 1 (some (9, 1, 7))) (9, 1, 8) 0 (some (10, 1, 8))) (11, 1, 0) 2 (some (9, 1, 8))) (9, 1, 9) 0 (some (10, 1, 9))) (11, 1, 0) 3 (some (9, 1, 9))) (9, 1, 10) 0 (some (10, 1, 10))) (11, 1, 0) 4 (some (9, 1, 10))) (7, 1, 0) 7 (some (12, 1, 0))) (9, 1, 2) 0 (some (10, 1, 2))) (12, 1, 0) 0 (some (9, 1, 2))) (9, 1, 3) 0 (some (10, 1, 3))) (12, 1, 0) 1 (some (9, 1, 3))) (9, 1, 4) 0 (some (10, 1, 4))) (12, 1, 0) 2 (some (9, 1, 4))) (9, 1, 5) 0 (some (10, 1, 5))) (12, 1, 0) 3 (some (9, 1, 5))) (9, 1, 1) 0 (some (10, 1, 1))) (7, 1, 0) 8 (some (9, 1, 1)))) R
  refine pg_43_129 (en_ok (by decide +kernel)) ?_
  exact go_eq hR.symm (pg_43_132)
def cf_43_5_2 (fi : FI) : FI := (xm_up (xm_up (xm_up fi (7, 2, 0) 0 (2 : Int32)) (7, 2, 0) 1 (5 : Int32)) (8, 2, 0) 2 (sp_1 (5 : Int32)))
def cr_43_5_2 (r : xm_I → Nat → Option xm_I) : xm_I → Nat → Option xm_I := (xm_up (xm_up (xm_up (xm_up (xm_up (xm_up (xm_up (xm_up (xm_up (xm_up (xm_up (xm_up (xm_up (xm_up (xm_up (xm_up (xm_up (xm_up (xm_up (xm_up (xm_up (xm_up (xm_up (xm_up (xm_up (xm_up r (7, 2, 0) 4 (some (8, 2, 0))) (9, 2, 0) 0 (some (10, 2, 0))) (7, 2, 0) 5 (some (9, 2, 0))) (7, 2, 0) 6 (some (11, 2, 0))) (9, 2, 6) 0 (some (10, 2, 6))) (11, 2, 0) 0 (some (9, 2, 6))) (9, 2, 7) 0 (some (10, 2, 7))) (11, 2, 0) 1 (some (9, 2, 7))) (9, 2, 8) 0 (some (10, 2, 8))) (11, 2, 0) 2 (some (9, 2, 8))) (9, 2, 9) 0 (some (10, 2, 9))) (11, 2, 0) 3 (some (9, 2, 9))) (9, 2, 10) 0 (some (10, 2, 10))) (11, 2, 0) 4 (some (9, 2, 10))) (7, 2, 0) 7 (some (12, 2, 0))) (9, 2, 2) 0 (some (10, 2, 2))) (12, 2, 0) 0 (some (9, 2, 2))) (9, 2, 3) 0 (some (10, 2, 3))) (12, 2, 0) 1 (some (9, 2, 3))) (9, 2, 4) 0 (some (10, 2, 4))) (12, 2, 0) 2 (some (9, 2, 4))) (9, 2, 5) 0 (some (10, 2, 5))) (12, 2, 0) 3 (some (9, 2, 5))) (9, 2, 1) 0 (some (10, 2, 1))) (7, 2, 0) 8 (some (9, 2, 1))) (7, 2, 0) 9 (some (13, 2, 0)))
set_option maxRecDepth 8000 in
theorem ct_43_5_2 {L : Nat} {fi : FI} {fl : FL} {r : xm_I → Nat → Option xm_I} {d : Nat} : xm_C (en 5 L) (d + 2) true 43 [xm_r (7, 2, 0), xm_i (2 : Int32), xm_i (5 : Int32)] ((62, 273), fi, fl, r) (.inl none, ((88, 368), cf_43_5_2 fi, fl, cr_43_5_2 r)) := by
  suffices key : ∀ (E : xm_E) (R : xm_O), E = en 5 L → ((.inl none, ((88, 368), cf_43_5_2 fi, fl, cr_43_5_2 r)) : xm_O) = R → xm_G (en 5 L) (d + 1) true 43 0 [some (xm_r (7, 2, 0)), some (xm_i (2 : Int32)), some (xm_i (5 : Int32)), none] [] ((62, 273), fi, fl, r) R from go_inr (by decide) (Nat.le_of_ble_eq_true rfl) (key _ _ rfl rfl)
  intro E R hE hR
  refine pg_43_0 rfl ?_
  refine pg_43_1 (Nat.le_of_ble_eq_true rfl) ?_
  refine pg_43_4 rfl ?_
  refine pg_43_5 rfl ?_
  refine pg_43_6 (en_ok (by decide +kernel)) ?_
  refine pg_43_9 rfl ?_
  refine pg_43_10 rfl ?_
  refine pg_43_11 (en_ok (by decide +kernel)) ?_
  refine pg_43_14 rfl ?_
  refine pg_43_15 ?_
  refine pg_43_16 (n := 4) (rfl : (4 : Int32) = nI 4) (by decide) (en_a (a := (8, 2, 0)) (by decide +kernel)) (en_k (by decide +kernel)) ?_
  show xm_G (en 5 L) (d + 1) true 43 18 [some (xm_r (7, 2, 0)), some (xm_i (2 : Int32)), some (xm_i (5 : Int32)), none] [xm_r (8, 2, 0), xm_r (7, 2, 0)] ((63, 277), (xm_up (xm_up fi (7, 2, 0) 0 (2 : Int32)) (7, 2, 0) 1 (5 : Int32)), fl, r) R
  refine pg_43_18 (en_ok (by decide +kernel)) ?_
  refine pg_43_21 rfl ?_
  refine pg_43_22 (en_ok (by decide +kernel)) rfl ?_
  refine pg_43_25 ?_
  refine pg_43_26 rfl ?_
  refine pg_43_27 (Nat.le_of_ble_eq_true rfl) (ct_1 (x := (5 : Int32))) ?_
  refine pg_43_30 (en_ok (s := 4) (by decide +kernel)) (i := 2) (rfl : (2 : Int32) = nI 2) (by omega) (by omega) ?_
  refine pg_43_31 rfl ?_
  refine pg_43_32 (a := (9, 2, 0)) (en_a (by decide +kernel)) (en_k (by decide +kernel)) ?_
  show xm_G (en 5 L) (d + 1) true 43 35 [some (xm_r (7, 2, 0)), some (xm_i (2 : Int32)), some (xm_i (5 : Int32)), none] [xm_r (9, 2, 0), xm_r (7, 2, 0)] ((64, 279), (xm_up (xm_up (xm_up fi (7, 2, 0) 0 (2 : Int32)) (7, 2, 0) 1 (5 : Int32)) (8, 2, 0) 2 (sp_1 (5 : Int32))), fl, (xm_up r (7, 2, 0) 4 (some (8, 2, 0)))) R
  refine pg_43_35 rfl ?_
  refine pg_43_36 rfl ?_
  refine pg_43_37 (Nat.le_of_ble_eq_true rfl) (ct_61 (m := 5) (b := (10, 2, 0)) (rfl : (5 : Int32) = nI 5) (by decide) (en_a (by decide +kernel)) (en_k (by decide +kernel)) (en_ok (by decide +kernel))) ?_
  show xm_G (en 5 L) (d + 1) true 43 40 [some (xm_r (7, 2, 0)), some (xm_i (2 : Int32)), some (xm_i (5 : Int32)), none] [xm_r (9, 2, 0), xm_r (7, 2, 0)] ((65, 284), (xm_up (xm_up (xm_up fi (7, 2, 0) 0 (2 : Int32)) (7, 2, 0) 1 (5 : Int32)) (8, 2, 0) 2 (sp_1 (5 : Int32))), fl, (xm_up (xm_up r (7, 2, 0) 4 (some (8, 2, 0))) (9, 2, 0) 0 (some (10, 2, 0)))) R
  refine pg_43_40 (en_ok (by decide +kernel)) ?_
  refine pg_43_43 rfl ?_
  refine pg_43_44 rfl ?_
  refine pg_43_45 (n := 5) (rfl : (5 : Int32) = nI 5) (by decide) (en_a (a := (11, 2, 0)) (by decide +kernel)) (en_k (by decide +kernel)) ?_
  show xm_G (en 5 L) (d + 1) true 43 48 [some (xm_r (7, 2, 0)), some (xm_i (2 : Int32)), some (xm_i (5 : Int32)), none] [xm_r (11, 2, 0), xm_r (7, 2, 0)] ((66, 289), (xm_up (xm_up (xm_up fi (7, 2, 0) 0 (2 : Int32)) (7, 2, 0) 1 (5 : Int32)) (8, 2, 0) 2 (sp_1 (5 : Int32))), fl, (xm_up (xm_up (xm_up r (7, 2, 0) 4 (some (8, 2, 0))) (9, 2, 0) 0 (some (10, 2, 0))) (7, 2, 0) 5 (some (9, 2, 0)))) R
  refine pg_43_48 (en_ok (by decide +kernel)) ?_
  refine pg_43_51 ?_
  refine pg_43_52 (lv' := [some (xm_r (7, 2, 0)), some (xm_i (2 : Int32)), some (xm_i (5 : Int32)), some (xm_i (0 : Int32))]) rfl ?_
  refine pg_43_53 rfl ?_
  refine pg_43_54 rfl ?_
  refine pg_43_55 (fun hc => absurd hc (by decide)) (fun _ => ?_)
  refine pg_43_58 rfl ?_
  refine pg_43_59 (en_ok (by decide +kernel)) rfl ?_
  refine pg_43_62 rfl ?_
  refine pg_43_63 (a := (9, 2, 6)) (en_a (by decide +kernel)) (en_k (by decide +kernel)) ?_
  show xm_G (en 5 L) (d + 1) true 43 66 [some (xm_r (7, 2, 0)), some (xm_i (2 : Int32)), some (xm_i (5 : Int32)), some (xm_i (0 : Int32))] [xm_r (9, 2, 6), xm_i (0 : Int32), xm_r (11, 2, 0)] ((67, 291), (xm_up (xm_up (xm_up fi (7, 2, 0) 0 (2 : Int32)) (7, 2, 0) 1 (5 : Int32)) (8, 2, 0) 2 (sp_1 (5 : Int32))), fl, (xm_up (xm_up (xm_up (xm_up r (7, 2, 0) 4 (some (8, 2, 0))) (9, 2, 0) 0 (some (10, 2, 0))) (7, 2, 0) 5 (some (9, 2, 0))) (7, 2, 0) 6 (some (11, 2, 0)))) R
  refine pg_43_66 rfl ?_
  refine pg_43_67 rfl ?_
  refine pg_43_68 (Nat.le_of_ble_eq_true rfl) (ct_61 (m := 5) (b := (10, 2, 6)) (rfl : (5 : Int32) = nI 5) (by decide) (en_a (by decide +kernel)) (en_k (by decide +kernel)) (en_ok (by decide +kernel))) ?_
  show xm_G (en 5 L) (d + 1) true 43 71 [some (xm_r (7, 2, 0)), some (xm_i (2 : Int32)), some (xm_i (5 : Int32)), some (xm_i (0 : Int32))] [xm_r (9, 2, 6), xm_i (0 : Int32), xm_r (11, 2, 0)] ((68, 296), (xm_up (xm_up (xm_up fi (7, 2, 0) 0 (2 : Int32)) (7, 2, 0) 1 (5 : Int32)) (8, 2, 0) 2 (sp_1 (5 : Int32))), fl, (xm_up (xm_up (xm_up (xm_up (xm_up r (7, 2, 0) 4 (some (8, 2, 0))) (9, 2, 0) 0 (some (10, 2, 0))) (7, 2, 0) 5 (some (9, 2, 0))) (7, 2, 0) 6 (some (11, 2, 0))) (9, 2, 6) 0 (some (10, 2, 6)))) R
  refine pg_43_71 (en_ok (t := 4) (s := 0) (by decide +kernel)) (by decide) (by decide) (en_ok (s := 5) (by decide +kernel)) (i := 0) (rfl : (0 : Int32) = nI 0) (by decide) (by decide) ?_
  refine pg_43_72 (y := (1 : Int32)) (lv' := [some (xm_r (7, 2, 0)), some (xm_i (2 : Int32)), some (xm_i (5 : Int32)), some (xm_i (1 : Int32))]) rfl (by decide) rfl ?_
  refine pg_43_75 ?_
  refine pg_43_53 rfl ?_
  refine pg_43_54 rfl ?_
  refine pg_43_55 (fun hc => absurd hc (by decide)) (fun _ => ?_)
  refine pg_43_58 rfl ?_
  refine pg_43_59 (en_ok (by decide +kernel)) rfl ?_
  refine pg_43_62 rfl ?_
  refine pg_43_63 (a := (9, 2, 7)) (en_a (by decide +kernel)) (en_k (by decide +kernel)) ?_
  show xm_G (en 5 L) (d + 1) true 43 66 [some (xm_r (7, 2, 0)), some (xm_i (2 : Int32)), some (xm_i (5 : Int32)), some (xm_i (1 : Int32))] [xm_r (9, 2, 7), xm_i (1 : Int32), xm_r (11, 2, 0)] ((69, 298), (xm_up (xm_up (xm_up fi (7, 2, 0) 0 (2 : Int32)) (7, 2, 0) 1 (5 : Int32)) (8, 2, 0) 2 (sp_1 (5 : Int32))), fl, (xm_up (xm_up (xm_up (xm_up (xm_up (xm_up r (7, 2, 0) 4 (some (8, 2, 0))) (9, 2, 0) 0 (some (10, 2, 0))) (7, 2, 0) 5 (some (9, 2, 0))) (7, 2, 0) 6 (some (11, 2, 0))) (9, 2, 6) 0 (some (10, 2, 6))) (11, 2, 0) 0 (some (9, 2, 6)))) R
  refine pg_43_66 rfl ?_
  refine pg_43_67 rfl ?_
  refine pg_43_68 (Nat.le_of_ble_eq_true rfl) (ct_61 (m := 5) (b := (10, 2, 7)) (rfl : (5 : Int32) = nI 5) (by decide) (en_a (by decide +kernel)) (en_k (by decide +kernel)) (en_ok (by decide +kernel))) ?_
  show xm_G (en 5 L) (d + 1) true 43 71 [some (xm_r (7, 2, 0)), some (xm_i (2 : Int32)), some (xm_i (5 : Int32)), some (xm_i (1 : Int32))] [xm_r (9, 2, 7), xm_i (1 : Int32), xm_r (11, 2, 0)] ((70, 303), (xm_up (xm_up (xm_up fi (7, 2, 0) 0 (2 : Int32)) (7, 2, 0) 1 (5 : Int32)) (8, 2, 0) 2 (sp_1 (5 : Int32))), fl, (xm_up (xm_up (xm_up (xm_up (xm_up (xm_up (xm_up r (7, 2, 0) 4 (some (8, 2, 0))) (9, 2, 0) 0 (some (10, 2, 0))) (7, 2, 0) 5 (some (9, 2, 0))) (7, 2, 0) 6 (some (11, 2, 0))) (9, 2, 6) 0 (some (10, 2, 6))) (11, 2, 0) 0 (some (9, 2, 6))) (9, 2, 7) 0 (some (10, 2, 7)))) R
  refine pg_43_71 (en_ok (t := 4) (s := 0) (by decide +kernel)) (by decide) (by decide) (en_ok (s := 5) (by decide +kernel)) (i := 1) (rfl : (1 : Int32) = nI 1) (by decide) (by decide) ?_
  refine pg_43_72 (y := (2 : Int32)) (lv' := [some (xm_r (7, 2, 0)), some (xm_i (2 : Int32)), some (xm_i (5 : Int32)), some (xm_i (2 : Int32))]) rfl (by decide) rfl ?_
  refine pg_43_75 ?_
  refine pg_43_53 rfl ?_
  refine pg_43_54 rfl ?_
  refine pg_43_55 (fun hc => absurd hc (by decide)) (fun _ => ?_)
  refine pg_43_58 rfl ?_
  refine pg_43_59 (en_ok (by decide +kernel)) rfl ?_
  refine pg_43_62 rfl ?_
  refine pg_43_63 (a := (9, 2, 8)) (en_a (by decide +kernel)) (en_k (by decide +kernel)) ?_
  show xm_G (en 5 L) (d + 1) true 43 66 [some (xm_r (7, 2, 0)), some (xm_i (2 : Int32)), some (xm_i (5 : Int32)), some (xm_i (2 : Int32))] [xm_r (9, 2, 8), xm_i (2 : Int32), xm_r (11, 2, 0)] ((71, 305), (xm_up (xm_up (xm_up fi (7, 2, 0) 0 (2 : Int32)) (7, 2, 0) 1 (5 : Int32)) (8, 2, 0) 2 (sp_1 (5 : Int32))), fl, (xm_up (xm_up (xm_up (xm_up (xm_up (xm_up (xm_up (xm_up r (7, 2, 0) 4 (some (8, 2, 0))) (9, 2, 0) 0 (some (10, 2, 0))) (7, 2, 0) 5 (some (9, 2, 0))) (7, 2, 0) 6 (some (11, 2, 0))) (9, 2, 6) 0 (some (10, 2, 6))) (11, 2, 0) 0 (some (9, 2, 6))) (9, 2, 7) 0 (some (10, 2, 7))) (11, 2, 0) 1 (some (9, 2, 7)))) R
  refine pg_43_66 rfl ?_
  refine pg_43_67 rfl ?_
  refine pg_43_68 (Nat.le_of_ble_eq_true rfl) (ct_61 (m := 5) (b := (10, 2, 8)) (rfl : (5 : Int32) = nI 5) (by decide) (en_a (by decide +kernel)) (en_k (by decide +kernel)) (en_ok (by decide +kernel))) ?_
  show xm_G (en 5 L) (d + 1) true 43 71 [some (xm_r (7, 2, 0)), some (xm_i (2 : Int32)), some (xm_i (5 : Int32)), some (xm_i (2 : Int32))] [xm_r (9, 2, 8), xm_i (2 : Int32), xm_r (11, 2, 0)] ((72, 310), (xm_up (xm_up (xm_up fi (7, 2, 0) 0 (2 : Int32)) (7, 2, 0) 1 (5 : Int32)) (8, 2, 0) 2 (sp_1 (5 : Int32))), fl, (xm_up (xm_up (xm_up (xm_up (xm_up (xm_up (xm_up (xm_up (xm_up r (7, 2, 0) 4 (some (8, 2, 0))) (9, 2, 0) 0 (some (10, 2, 0))) (7, 2, 0) 5 (some (9, 2, 0))) (7, 2, 0) 6 (some (11, 2, 0))) (9, 2, 6) 0 (some (10, 2, 6))) (11, 2, 0) 0 (some (9, 2, 6))) (9, 2, 7) 0 (some (10, 2, 7))) (11, 2, 0) 1 (some (9, 2, 7))) (9, 2, 8) 0 (some (10, 2, 8)))) R
  refine pg_43_71 (en_ok (t := 4) (s := 0) (by decide +kernel)) (by decide) (by decide) (en_ok (s := 5) (by decide +kernel)) (i := 2) (rfl : (2 : Int32) = nI 2) (by decide) (by decide) ?_
  refine pg_43_72 (y := (3 : Int32)) (lv' := [some (xm_r (7, 2, 0)), some (xm_i (2 : Int32)), some (xm_i (5 : Int32)), some (xm_i (3 : Int32))]) rfl (by decide) rfl ?_
  refine pg_43_75 ?_
  refine pg_43_53 rfl ?_
  refine pg_43_54 rfl ?_
  refine pg_43_55 (fun hc => absurd hc (by decide)) (fun _ => ?_)
  refine pg_43_58 rfl ?_
  refine pg_43_59 (en_ok (by decide +kernel)) rfl ?_
  refine pg_43_62 rfl ?_
  refine pg_43_63 (a := (9, 2, 9)) (en_a (by decide +kernel)) (en_k (by decide +kernel)) ?_
  show xm_G (en 5 L) (d + 1) true 43 66 [some (xm_r (7, 2, 0)), some (xm_i (2 : Int32)), some (xm_i (5 : Int32)), some (xm_i (3 : Int32))] [xm_r (9, 2, 9), xm_i (3 : Int32), xm_r (11, 2, 0)] ((73, 312), (xm_up (xm_up (xm_up fi (7, 2, 0) 0 (2 : Int32)) (7, 2, 0) 1 (5 : Int32)) (8, 2, 0) 2 (sp_1 (5 : Int32))), fl, (xm_up (xm_up (xm_up (xm_up (xm_up (xm_up (xm_up (xm_up (xm_up (xm_up r (7, 2, 0) 4 (some (8, 2, 0))) (9, 2, 0) 0 (some (10, 2, 0))) (7, 2, 0) 5 (some (9, 2, 0))) (7, 2, 0) 6 (some (11, 2, 0))) (9, 2, 6) 0 (some (10, 2, 6))) (11, 2, 0) 0 (some (9, 2, 6))) (9, 2, 7) 0 (some (10, 2, 7))) (11, 2, 0) 1 (some (9, 2, 7))) (9, 2, 8) 0 (some (10, 2, 8))) (11, 2, 0) 2 (some (9, 2, 8)))) R
  refine pg_43_66 rfl ?_
  refine pg_43_67 rfl ?_
  refine pg_43_68 (Nat.le_of_ble_eq_true rfl) (ct_61 (m := 5) (b := (10, 2, 9)) (rfl : (5 : Int32) = nI 5) (by decide) (en_a (by decide +kernel)) (en_k (by decide +kernel)) (en_ok (by decide +kernel))) ?_
  show xm_G (en 5 L) (d + 1) true 43 71 [some (xm_r (7, 2, 0)), some (xm_i (2 : Int32)), some (xm_i (5 : Int32)), some (xm_i (3 : Int32))] [xm_r (9, 2, 9), xm_i (3 : Int32), xm_r (11, 2, 0)] ((74, 317), (xm_up (xm_up (xm_up fi (7, 2, 0) 0 (2 : Int32)) (7, 2, 0) 1 (5 : Int32)) (8, 2, 0) 2 (sp_1 (5 : Int32))), fl, (xm_up (xm_up (xm_up (xm_up (xm_up (xm_up (xm_up (xm_up (xm_up (xm_up (xm_up r (7, 2, 0) 4 (some (8, 2, 0))) (9, 2, 0) 0 (some (10, 2, 0))) (7, 2, 0) 5 (some (9, 2, 0))) (7, 2, 0) 6 (some (11, 2, 0))) (9, 2, 6) 0 (some (10, 2, 6))) (11, 2, 0) 0 (some (9, 2, 6))) (9, 2, 7) 0 (some (10, 2, 7))) (11, 2, 0) 1 (some (9, 2, 7))) (9, 2, 8) 0 (some (10, 2, 8))) (11, 2, 0) 2 (some (9, 2, 8))) (9, 2, 9) 0 (some (10, 2, 9)))) R
  refine pg_43_71 (en_ok (t := 4) (s := 0) (by decide +kernel)) (by decide) (by decide) (en_ok (s := 5) (by decide +kernel)) (i := 3) (rfl : (3 : Int32) = nI 3) (by decide) (by decide) ?_
  refine pg_43_72 (y := (4 : Int32)) (lv' := [some (xm_r (7, 2, 0)), some (xm_i (2 : Int32)), some (xm_i (5 : Int32)), some (xm_i (4 : Int32))]) rfl (by decide) rfl ?_
  refine pg_43_75 ?_
  refine pg_43_53 rfl ?_
  refine pg_43_54 rfl ?_
  refine pg_43_55 (fun hc => absurd hc (by decide)) (fun _ => ?_)
  refine pg_43_58 rfl ?_
  refine pg_43_59 (en_ok (by decide +kernel)) rfl ?_
  refine pg_43_62 rfl ?_
  refine pg_43_63 (a := (9, 2, 10)) (en_a (by decide +kernel)) (en_k (by decide +kernel)) ?_
  show xm_G (en 5 L) (d + 1) true 43 66 [some (xm_r (7, 2, 0)), some (xm_i (2 : Int32)), some (xm_i (5 : Int32)), some (xm_i (4 : Int32))] [xm_r (9, 2, 10), xm_i (4 : Int32), xm_r (11, 2, 0)] ((75, 319), (xm_up (xm_up (xm_up fi (7, 2, 0) 0 (2 : Int32)) (7, 2, 0) 1 (5 : Int32)) (8, 2, 0) 2 (sp_1 (5 : Int32))), fl, (xm_up (xm_up (xm_up (xm_up (xm_up (xm_up (xm_up (xm_up (xm_up (xm_up (xm_up (xm_up r (7, 2, 0) 4 (some (8, 2, 0))) (9, 2, 0) 0 (some (10, 2, 0))) (7, 2, 0) 5 (some (9, 2, 0))) (7, 2, 0) 6 (some (11, 2, 0))) (9, 2, 6) 0 (some (10, 2, 6))) (11, 2, 0) 0 (some (9, 2, 6))) (9, 2, 7) 0 (some (10, 2, 7))) (11, 2, 0) 1 (some (9, 2, 7))) (9, 2, 8) 0 (some (10, 2, 8))) (11, 2, 0) 2 (some (9, 2, 8))) (9, 2, 9) 0 (some (10, 2, 9))) (11, 2, 0) 3 (some (9, 2, 9)))) R
  refine pg_43_66 rfl ?_
  refine pg_43_67 rfl ?_
  refine pg_43_68 (Nat.le_of_ble_eq_true rfl) (ct_61 (m := 5) (b := (10, 2, 10)) (rfl : (5 : Int32) = nI 5) (by decide) (en_a (by decide +kernel)) (en_k (by decide +kernel)) (en_ok (by decide +kernel))) ?_
  show xm_G (en 5 L) (d + 1) true 43 71 [some (xm_r (7, 2, 0)), some (xm_i (2 : Int32)), some (xm_i (5 : Int32)), some (xm_i (4 : Int32))] [xm_r (9, 2, 10), xm_i (4 : Int32), xm_r (11, 2, 0)] ((76, 324), (xm_up (xm_up (xm_up fi (7, 2, 0) 0 (2 : Int32)) (7, 2, 0) 1 (5 : Int32)) (8, 2, 0) 2 (sp_1 (5 : Int32))), fl, (xm_up (xm_up (xm_up (xm_up (xm_up (xm_up (xm_up (xm_up (xm_up (xm_up (xm_up (xm_up (xm_up r (7, 2, 0) 4 (some (8, 2, 0))) (9, 2, 0) 0 (some (10, 2, 0))) (7, 2, 0) 5 (some (9, 2, 0))) (7, 2, 0) 6 (some (11, 2, 0))) (9, 2, 6) 0 (some (10, 2, 6))) (11, 2, 0) 0 (some (9, 2, 6))) (9, 2, 7) 0 (some (10, 2, 7))) (11, 2, 0) 1 (some (9, 2, 7))) (9, 2, 8) 0 (some (10, 2, 8))) (11, 2, 0) 2 (some (9, 2, 8))) (9, 2, 9) 0 (some (10, 2, 9))) (11, 2, 0) 3 (some (9, 2, 9))) (9, 2, 10) 0 (some (10, 2, 10)))) R
  refine pg_43_71 (en_ok (t := 4) (s := 0) (by decide +kernel)) (by decide) (by decide) (en_ok (s := 5) (by decide +kernel)) (i := 4) (rfl : (4 : Int32) = nI 4) (by decide) (by decide) ?_
  refine pg_43_72 (y := (5 : Int32)) (lv' := [some (xm_r (7, 2, 0)), some (xm_i (2 : Int32)), some (xm_i (5 : Int32)), some (xm_i (5 : Int32))]) rfl (by decide) rfl ?_
  refine pg_43_75 ?_
  refine pg_43_53 rfl ?_
  refine pg_43_54 rfl ?_
  refine pg_43_55 (fun _ => ?_) (fun hc => absurd (by decide) hc)
  refine pg_43_78 rfl ?_
  refine pg_43_79 ?_
  refine pg_43_80 (n := 4) (rfl : (4 : Int32) = nI 4) (by decide) (en_a (a := (12, 2, 0)) (by decide +kernel)) (en_k (by decide +kernel)) ?_
  show xm_G (en 5 L) (d + 1) true 43 83 [some (xm_r (7, 2, 0)), some (xm_i (2 : Int32)), some (xm_i (5 : Int32)), some (xm_i (5 : Int32))] [xm_r (12, 2, 0), xm_r (7, 2, 0)] ((77, 328), (xm_up (xm_up (xm_up fi (7, 2, 0) 0 (2 : Int32)) (7, 2, 0) 1 (5 : Int32)) (8, 2, 0) 2 (sp_1 (5 : Int32))), fl, (xm_up (xm_up (xm_up (xm_up (xm_up (xm_up (xm_up (xm_up (xm_up (xm_up (xm_up (xm_up (xm_up (xm_up r (7, 2, 0) 4 (some (8, 2, 0))) (9, 2, 0) 0 (some (10, 2, 0))) (7, 2, 0) 5 (some (9, 2, 0))) (7, 2, 0) 6 (some (11, 2, 0))) (9, 2, 6) 0 (some (10, 2, 6))) (11, 2, 0) 0 (some (9, 2, 6))) (9, 2, 7) 0 (some (10, 2, 7))) (11, 2, 0) 1 (some (9, 2, 7))) (9, 2, 8) 0 (some (10, 2, 8))) (11, 2, 0) 2 (some (9, 2, 8))) (9, 2, 9) 0 (some (10, 2, 9))) (11, 2, 0) 3 (some (9, 2, 9))) (9, 2, 10) 0 (some (10, 2, 10))) (11, 2, 0) 4 (some (9, 2, 10)))) R
  refine pg_43_83 (en_ok (by decide +kernel)) ?_
  refine pg_43_86 ?_
  refine pg_43_87 (lv' := [some (xm_r (7, 2, 0)), some (xm_i (2 : Int32)), some (xm_i (5 : Int32)), some (xm_i (0 : Int32))]) rfl ?_
  refine pg_43_88 rfl ?_
  refine pg_43_89 ?_
  refine pg_43_90 (fun hc => absurd hc (by decide)) (fun _ => ?_)
  refine pg_43_93 rfl ?_
  refine pg_43_94 (en_ok (by decide +kernel)) rfl ?_
  refine pg_43_97 rfl ?_
  refine pg_43_98 (a := (9, 2, 2)) (en_a (by decide +kernel)) (en_k (by decide +kernel)) ?_
  show xm_G (en 5 L) (d + 1) true 43 101 [some (xm_r (7, 2, 0)), some (xm_i (2 : Int32)), some (xm_i (5 : Int32)), some (xm_i (0 : Int32))] [xm_r (9, 2, 2), xm_i (0 : Int32), xm_r (12, 2, 0)] ((78, 330), (xm_up (xm_up (xm_up fi (7, 2, 0) 0 (2 : Int32)) (7, 2, 0) 1 (5 : Int32)) (8, 2, 0) 2 (sp_1 (5 : Int32))), fl, (xm_up (xm_up (xm_up (xm_up (xm_up (xm_up (xm_up (xm_up (xm_up (xm_up (xm_up (xm_up (xm_up (xm_up (xm_up r (7, 2, 0) 4 (some (8, 2, 0))) (9, 2, 0) 0 (some (10, 2, 0))) (7, 2, 0) 5 (some (9, 2, 0))) (7, 2, 0) 6 (some (11, 2, 0))) (9, 2, 6) 0 (some (10, 2, 6))) (11, 2, 0) 0 (some (9, 2, 6))) (9, 2, 7) 0 (some (10, 2, 7))) (11, 2, 0) 1 (some (9, 2, 7))) (9, 2, 8) 0 (some (10, 2, 8))) (11, 2, 0) 2 (some (9, 2, 8))) (9, 2, 9) 0 (some (10, 2, 9))) (11, 2, 0) 3 (some (9, 2, 9))) (9, 2, 10) 0 (some (10, 2, 10))) (11, 2, 0) 4 (some (9, 2, 10))) (7, 2, 0) 7 (some (12, 2, 0)))) R
  refine pg_43_101 rfl ?_
  refine pg_43_102 rfl ?_
  refine pg_43_103 (Nat.le_of_ble_eq_true rfl) (ct_61 (m := 5) (b := (10, 2, 2)) (rfl : (5 : Int32) = nI 5) (by decide) (en_a (by decide +kernel)) (en_k (by decide +kernel)) (en_ok (by decide +kernel))) ?_
  show xm_G (en 5 L) (d + 1) true 43 106 [some (xm_r (7, 2, 0)), some (xm_i (2 : Int32)), some (xm_i (5 : Int32)), some (xm_i (0 : Int32))] [xm_r (9, 2, 2), xm_i (0 : Int32), xm_r (12, 2, 0)] ((79, 335), (xm_up (xm_up (xm_up fi (7, 2, 0) 0 (2 : Int32)) (7, 2, 0) 1 (5 : Int32)) (8, 2, 0) 2 (sp_1 (5 : Int32))), fl, (xm_up (xm_up (xm_up (xm_up (xm_up (xm_up (xm_up (xm_up (xm_up (xm_up (xm_up (xm_up (xm_up (xm_up (xm_up (xm_up r (7, 2, 0) 4 (some (8, 2, 0))) (9, 2, 0) 0 (some (10, 2, 0))) (7, 2, 0) 5 (some (9, 2, 0))) (7, 2, 0) 6 (some (11, 2, 0))) (9, 2, 6) 0 (some (10, 2, 6))) (11, 2, 0) 0 (some (9, 2, 6))) (9, 2, 7) 0 (some (10, 2, 7))) (11, 2, 0) 1 (some (9, 2, 7))) (9, 2, 8) 0 (some (10, 2, 8))) (11, 2, 0) 2 (some (9, 2, 8))) (9, 2, 9) 0 (some (10, 2, 9))) (11, 2, 0) 3 (some (9, 2, 9))) (9, 2, 10) 0 (some (10, 2, 10))) (11, 2, 0) 4 (some (9, 2, 10))) (7, 2, 0) 7 (some (12, 2, 0))) (9, 2, 2) 0 (some (10, 2, 2)))) R
  refine pg_43_106 (en_ok (t := 4) (s := 0) (by decide +kernel)) (by decide) (by decide) (en_ok (s := 4) (by decide +kernel)) (i := 0) (rfl : (0 : Int32) = nI 0) (by decide) (by decide) ?_
  refine pg_43_107 (y := (1 : Int32)) (lv' := [some (xm_r (7, 2, 0)), some (xm_i (2 : Int32)), some (xm_i (5 : Int32)), some (xm_i (1 : Int32))]) rfl (by decide) rfl ?_
  refine pg_43_110 ?_
  refine pg_43_88 rfl ?_
  refine pg_43_89 ?_
  refine pg_43_90 (fun hc => absurd hc (by decide)) (fun _ => ?_)
  refine pg_43_93 rfl ?_
  refine pg_43_94 (en_ok (by decide +kernel)) rfl ?_
  refine pg_43_97 rfl ?_
  refine pg_43_98 (a := (9, 2, 3)) (en_a (by decide +kernel)) (en_k (by decide +kernel)) ?_
  show xm_G (en 5 L) (d + 1) true 43 101 [some (xm_r (7, 2, 0)), some (xm_i (2 : Int32)), some (xm_i (5 : Int32)), some (xm_i (1 : Int32))] [xm_r (9, 2, 3), xm_i (1 : Int32), xm_r (12, 2, 0)] ((80, 337), (xm_up (xm_up (xm_up fi (7, 2, 0) 0 (2 : Int32)) (7, 2, 0) 1 (5 : Int32)) (8, 2, 0) 2 (sp_1 (5 : Int32))), fl, (xm_up (xm_up (xm_up (xm_up (xm_up (xm_up (xm_up (xm_up (xm_up (xm_up (xm_up (xm_up (xm_up (xm_up (xm_up (xm_up (xm_up r (7, 2, 0) 4 (some (8, 2, 0))) (9, 2, 0) 0 (some (10, 2, 0))) (7, 2, 0) 5 (some (9, 2, 0))) (7, 2, 0) 6 (some (11, 2, 0))) (9, 2, 6) 0 (some (10, 2, 6))) (11, 2, 0) 0 (some (9, 2, 6))) (9, 2, 7) 0 (some (10, 2, 7))) (11, 2, 0) 1 (some (9, 2, 7))) (9, 2, 8) 0 (some (10, 2, 8))) (11, 2, 0) 2 (some (9, 2, 8))) (9, 2, 9) 0 (some (10, 2, 9))) (11, 2, 0) 3 (some (9, 2, 9))) (9, 2, 10) 0 (some (10, 2, 10))) (11, 2, 0) 4 (some (9, 2, 10))) (7, 2, 0) 7 (some (12, 2, 0))) (9, 2, 2) 0 (some (10, 2, 2))) (12, 2, 0) 0 (some (9, 2, 2)))) R
  refine pg_43_101 rfl ?_
  refine pg_43_102 rfl ?_
  refine pg_43_103 (Nat.le_of_ble_eq_true rfl) (ct_61 (m := 5) (b := (10, 2, 3)) (rfl : (5 : Int32) = nI 5) (by decide) (en_a (by decide +kernel)) (en_k (by decide +kernel)) (en_ok (by decide +kernel))) ?_
  show xm_G (en 5 L) (d + 1) true 43 106 [some (xm_r (7, 2, 0)), some (xm_i (2 : Int32)), some (xm_i (5 : Int32)), some (xm_i (1 : Int32))] [xm_r (9, 2, 3), xm_i (1 : Int32), xm_r (12, 2, 0)] ((81, 342), (xm_up (xm_up (xm_up fi (7, 2, 0) 0 (2 : Int32)) (7, 2, 0) 1 (5 : Int32)) (8, 2, 0) 2 (sp_1 (5 : Int32))), fl, (xm_up (xm_up (xm_up (xm_up (xm_up (xm_up (xm_up (xm_up (xm_up (xm_up (xm_up (xm_up (xm_up (xm_up (xm_up (xm_up (xm_up (xm_up r (7, 2, 0) 4 (some (8, 2, 0))) (9, 2, 0) 0 (some (10, 2, 0))) (7, 2, 0) 5 (some (9, 2, 0))) (7, 2, 0) 6 (some (11, 2, 0))) (9, 2, 6) 0 (some (10, 2, 6))) (11, 2, 0) 0 (some (9, 2, 6))) (9, 2, 7) 0 (some (10, 2, 7))) (11, 2, 0) 1 (some (9, 2, 7))) (9, 2, 8) 0 (some (10, 2, 8))) (11, 2, 0) 2 (some (9, 2, 8))) (9, 2, 9) 0 (some (10, 2, 9))) (11, 2, 0) 3 (some (9, 2, 9))) (9, 2, 10) 0 (some (10, 2, 10))) (11, 2, 0) 4 (some (9, 2, 10))) (7, 2, 0) 7 (some (12, 2, 0))) (9, 2, 2) 0 (some (10, 2, 2))) (12, 2, 0) 0 (some (9, 2, 2))) (9, 2, 3) 0 (some (10, 2, 3)))) R
  refine pg_43_106 (en_ok (t := 4) (s := 0) (by decide +kernel)) (by decide) (by decide) (en_ok (s := 4) (by decide +kernel)) (i := 1) (rfl : (1 : Int32) = nI 1) (by decide) (by decide) ?_
  refine pg_43_107 (y := (2 : Int32)) (lv' := [some (xm_r (7, 2, 0)), some (xm_i (2 : Int32)), some (xm_i (5 : Int32)), some (xm_i (2 : Int32))]) rfl (by decide) rfl ?_
  refine pg_43_110 ?_
  refine pg_43_88 rfl ?_
  refine pg_43_89 ?_
  refine pg_43_90 (fun hc => absurd hc (by decide)) (fun _ => ?_)
  refine pg_43_93 rfl ?_
  refine pg_43_94 (en_ok (by decide +kernel)) rfl ?_
  refine pg_43_97 rfl ?_
  refine pg_43_98 (a := (9, 2, 4)) (en_a (by decide +kernel)) (en_k (by decide +kernel)) ?_
  show xm_G (en 5 L) (d + 1) true 43 101 [some (xm_r (7, 2, 0)), some (xm_i (2 : Int32)), some (xm_i (5 : Int32)), some (xm_i (2 : Int32))] [xm_r (9, 2, 4), xm_i (2 : Int32), xm_r (12, 2, 0)] ((82, 344), (xm_up (xm_up (xm_up fi (7, 2, 0) 0 (2 : Int32)) (7, 2, 0) 1 (5 : Int32)) (8, 2, 0) 2 (sp_1 (5 : Int32))), fl, (xm_up (xm_up (xm_up (xm_up (xm_up (xm_up (xm_up (xm_up (xm_up (xm_up (xm_up (xm_up (xm_up (xm_up (xm_up (xm_up (xm_up (xm_up (xm_up r (7, 2, 0) 4 (some (8, 2, 0))) (9, 2, 0) 0 (some (10, 2, 0))) (7, 2, 0) 5 (some (9, 2, 0))) (7, 2, 0) 6 (some (11, 2, 0))) (9, 2, 6) 0 (some (10, 2, 6))) (11, 2, 0) 0 (some (9, 2, 6))) (9, 2, 7) 0 (some (10, 2, 7))) (11, 2, 0) 1 (some (9, 2, 7))) (9, 2, 8) 0 (some (10, 2, 8))) (11, 2, 0) 2 (some (9, 2, 8))) (9, 2, 9) 0 (some (10, 2, 9))) (11, 2, 0) 3 (some (9, 2, 9))) (9, 2, 10) 0 (some (10, 2, 10))) (11, 2, 0) 4 (some (9, 2, 10))) (7, 2, 0) 7 (some (12, 2, 0))) (9, 2, 2) 0 (some (10, 2, 2))) (12, 2, 0) 0 (some (9, 2, 2))) (9, 2, 3) 0 (some (10, 2, 3))) (12, 2, 0) 1 (some (9, 2, 3)))) R
  refine pg_43_101 rfl ?_
  refine pg_43_102 rfl ?_
  refine pg_43_103 (Nat.le_of_ble_eq_true rfl) (ct_61 (m := 5) (b := (10, 2, 4)) (rfl : (5 : Int32) = nI 5) (by decide) (en_a (by decide +kernel)) (en_k (by decide +kernel)) (en_ok (by decide +kernel))) ?_
  show xm_G (en 5 L) (d + 1) true 43 106 [some (xm_r (7, 2, 0)), some (xm_i (2 : Int32)), some (xm_i (5 : Int32)), some (xm_i (2 : Int32))] [xm_r (9, 2, 4), xm_i (2 : Int32), xm_r (12, 2, 0)] ((83, 349), (xm_up (xm_up (xm_up fi (7, 2, 0) 0 (2 : Int32)) (7, 2, 0) 1 (5 : Int32)) (8, 2, 0) 2 (sp_1 (5 : Int32))), fl, (xm_up (xm_up (xm_up (xm_up (xm_up (xm_up (xm_up (xm_up (xm_up (xm_up (xm_up (xm_up (xm_up (xm_up (xm_up (xm_up (xm_up (xm_up (xm_up (xm_up r (7, 2, 0) 4 (some (8, 2, 0))) (9, 2, 0) 0 (some (10, 2, 0))) (7, 2, 0) 5 (some (9, 2, 0))) (7, 2, 0) 6 (some (11, 2, 0))) (9, 2, 6) 0 (some (10, 2, 6))) (11, 2, 0) 0 (some (9, 2, 6))) (9, 2, 7) 0 (some (10, 2, 7))) (11, 2, 0) 1 (some (9, 2, 7))) (9, 2, 8) 0 (some (10, 2, 8))) (11, 2, 0) 2 (some (9, 2, 8))) (9, 2, 9) 0 (some (10, 2, 9))) (11, 2, 0) 3 (some (9, 2, 9))) (9, 2, 10) 0 (some (10, 2, 10))) (11, 2, 0) 4 (some (9, 2, 10))) (7, 2, 0) 7 (some (12, 2, 0))) (9, 2, 2) 0 (some (10, 2, 2))) (12, 2, 0) 0 (some (9, 2, 2))) (9, 2, 3) 0 (some (10, 2, 3))) (12, 2, 0) 1 (some (9, 2, 3))) (9, 2, 4) 0 (some (10, 2, 4)))) R
  refine pg_43_106 (en_ok (t := 4) (s := 0) (by decide +kernel)) (by decide) (by decide) (en_ok (s := 4) (by decide +kernel)) (i := 2) (rfl : (2 : Int32) = nI 2) (by decide) (by decide) ?_
  refine pg_43_107 (y := (3 : Int32)) (lv' := [some (xm_r (7, 2, 0)), some (xm_i (2 : Int32)), some (xm_i (5 : Int32)), some (xm_i (3 : Int32))]) rfl (by decide) rfl ?_
  refine pg_43_110 ?_
  refine pg_43_88 rfl ?_
  refine pg_43_89 ?_
  refine pg_43_90 (fun hc => absurd hc (by decide)) (fun _ => ?_)
  refine pg_43_93 rfl ?_
  refine pg_43_94 (en_ok (by decide +kernel)) rfl ?_
  refine pg_43_97 rfl ?_
  refine pg_43_98 (a := (9, 2, 5)) (en_a (by decide +kernel)) (en_k (by decide +kernel)) ?_
  show xm_G (en 5 L) (d + 1) true 43 101 [some (xm_r (7, 2, 0)), some (xm_i (2 : Int32)), some (xm_i (5 : Int32)), some (xm_i (3 : Int32))] [xm_r (9, 2, 5), xm_i (3 : Int32), xm_r (12, 2, 0)] ((84, 351), (xm_up (xm_up (xm_up fi (7, 2, 0) 0 (2 : Int32)) (7, 2, 0) 1 (5 : Int32)) (8, 2, 0) 2 (sp_1 (5 : Int32))), fl, (xm_up (xm_up (xm_up (xm_up (xm_up (xm_up (xm_up (xm_up (xm_up (xm_up (xm_up (xm_up (xm_up (xm_up (xm_up (xm_up (xm_up (xm_up (xm_up (xm_up (xm_up r (7, 2, 0) 4 (some (8, 2, 0))) (9, 2, 0) 0 (some (10, 2, 0))) (7, 2, 0) 5 (some (9, 2, 0))) (7, 2, 0) 6 (some (11, 2, 0))) (9, 2, 6) 0 (some (10, 2, 6))) (11, 2, 0) 0 (some (9, 2, 6))) (9, 2, 7) 0 (some (10, 2, 7))) (11, 2, 0) 1 (some (9, 2, 7))) (9, 2, 8) 0 (some (10, 2, 8))) (11, 2, 0) 2 (some (9, 2, 8))) (9, 2, 9) 0 (some (10, 2, 9))) (11, 2, 0) 3 (some (9, 2, 9))) (9, 2, 10) 0 (some (10, 2, 10))) (11, 2, 0) 4 (some (9, 2, 10))) (7, 2, 0) 7 (some (12, 2, 0))) (9, 2, 2) 0 (some (10, 2, 2))) (12, 2, 0) 0 (some (9, 2, 2))) (9, 2, 3) 0 (some (10, 2, 3))) (12, 2, 0) 1 (some (9, 2, 3))) (9, 2, 4) 0 (some (10, 2, 4))) (12, 2, 0) 2 (some (9, 2, 4)))) R
  refine pg_43_101 rfl ?_
  refine pg_43_102 rfl ?_
  refine pg_43_103 (Nat.le_of_ble_eq_true rfl) (ct_61 (m := 5) (b := (10, 2, 5)) (rfl : (5 : Int32) = nI 5) (by decide) (en_a (by decide +kernel)) (en_k (by decide +kernel)) (en_ok (by decide +kernel))) ?_
  show xm_G (en 5 L) (d + 1) true 43 106 [some (xm_r (7, 2, 0)), some (xm_i (2 : Int32)), some (xm_i (5 : Int32)), some (xm_i (3 : Int32))] [xm_r (9, 2, 5), xm_i (3 : Int32), xm_r (12, 2, 0)] ((85, 356), (xm_up (xm_up (xm_up fi (7, 2, 0) 0 (2 : Int32)) (7, 2, 0) 1 (5 : Int32)) (8, 2, 0) 2 (sp_1 (5 : Int32))), fl, (xm_up (xm_up (xm_up (xm_up (xm_up (xm_up (xm_up (xm_up (xm_up (xm_up (xm_up (xm_up (xm_up (xm_up (xm_up (xm_up (xm_up (xm_up (xm_up (xm_up (xm_up (xm_up r (7, 2, 0) 4 (some (8, 2, 0))) (9, 2, 0) 0 (some (10, 2, 0))) (7, 2, 0) 5 (some (9, 2, 0))) (7, 2, 0) 6 (some (11, 2, 0))) (9, 2, 6) 0 (some (10, 2, 6))) (11, 2, 0) 0 (some (9, 2, 6))) (9, 2, 7) 0 (some (10, 2, 7))) (11, 2, 0) 1 (some (9, 2, 7))) (9, 2, 8) 0 (some (10, 2, 8))) (11, 2, 0) 2 (some (9, 2, 8))) (9, 2, 9) 0 (some (10, 2, 9))) (11, 2, 0) 3 (some (9, 2, 9))) (9, 2, 10) 0 (some (10, 2, 10))) (11, 2, 0) 4 (some (9, 2, 10))) (7, 2, 0) 7 (some (12, 2, 0))) (9, 2, 2) 0 (some (10, 2, 2))) (12, 2, 0) 0 (some (9, 2, 2))) (9, 2, 3) 0 (some (10, 2, 3))) (12, 2, 0) 1 (some (9, 2, 3))) (9, 2, 4) 0 (some (10, 2, 4))) (12, 2, 0) 2 (some (9, 2, 4))) (9, 2, 5) 0 (some (10, 2, 5)))) R
  refine pg_43_106 (en_ok (t := 4) (s := 0) (by decide +kernel)) (by decide) (by decide) (en_ok (s := 4) (by decide +kernel)) (i := 3) (rfl : (3 : Int32) = nI 3) (by decide) (by decide) ?_
  refine pg_43_107 (y := (4 : Int32)) (lv' := [some (xm_r (7, 2, 0)), some (xm_i (2 : Int32)), some (xm_i (5 : Int32)), some (xm_i (4 : Int32))]) rfl (by decide) rfl ?_
  refine pg_43_110 ?_
  refine pg_43_88 rfl ?_
  refine pg_43_89 ?_
  refine pg_43_90 (fun _ => ?_) (fun hc => absurd (by decide) hc)
  refine pg_43_113 rfl ?_
  refine pg_43_114 (a := (9, 2, 1)) (en_a (by decide +kernel)) (en_k (by decide +kernel)) ?_
  show xm_G (en 5 L) (d + 1) true 43 117 [some (xm_r (7, 2, 0)), some (xm_i (2 : Int32)), some (xm_i (5 : Int32)), some (xm_i (4 : Int32))] [xm_r (9, 2, 1), xm_r (7, 2, 0)] ((86, 358), (xm_up (xm_up (xm_up fi (7, 2, 0) 0 (2 : Int32)) (7, 2, 0) 1 (5 : Int32)) (8, 2, 0) 2 (sp_1 (5 : Int32))), fl, (xm_up (xm_up (xm_up (xm_up (xm_up (xm_up (xm_up (xm_up (xm_up (xm_up (xm_up (xm_up (xm_up (xm_up (xm_up (xm_up (xm_up (xm_up (xm_up (xm_up (xm_up (xm_up (xm_up r (7, 2, 0) 4 (some (8, 2, 0))) (9, 2, 0) 0 (some (10, 2, 0))) (7, 2, 0) 5 (some (9, 2, 0))) (7, 2, 0) 6 (some (11, 2, 0))) (9, 2, 6) 0 (some (10, 2, 6))) (11, 2, 0) 0 (some (9, 2, 6))) (9, 2, 7) 0 (some (10, 2, 7))) (11, 2, 0) 1 (some (9, 2, 7))) (9, 2, 8) 0 (some (10, 2, 8))) (11, 2, 0) 2 (some (9, 2, 8))) (9, 2, 9) 0 (some (10, 2, 9))) (11, 2, 0) 3 (some (9, 2, 9))) (9, 2, 10) 0 (some (10, 2, 10))) (11, 2, 0) 4 (some (9, 2, 10))) (7, 2, 0) 7 (some (12, 2, 0))) (9, 2, 2) 0 (some (10, 2, 2))) (12, 2, 0) 0 (some (9, 2, 2))) (9, 2, 3) 0 (some (10, 2, 3))) (12, 2, 0) 1 (some (9, 2, 3))) (9, 2, 4) 0 (some (10, 2, 4))) (12, 2, 0) 2 (some (9, 2, 4))) (9, 2, 5) 0 (some (10, 2, 5))) (12, 2, 0) 3 (some (9, 2, 5)))) R
  refine pg_43_117 rfl ?_
  refine pg_43_118 rfl ?_
  refine pg_43_119 (Nat.le_of_ble_eq_true rfl) (ct_61 (m := 5) (b := (10, 2, 1)) (rfl : (5 : Int32) = nI 5) (by decide) (en_a (by decide +kernel)) (en_k (by decide +kernel)) (en_ok (by decide +kernel))) ?_
  show xm_G (en 5 L) (d + 1) true 43 122 [some (xm_r (7, 2, 0)), some (xm_i (2 : Int32)), some (xm_i (5 : Int32)), some (xm_i (4 : Int32))] [xm_r (9, 2, 1), xm_r (7, 2, 0)] ((87, 363), (xm_up (xm_up (xm_up fi (7, 2, 0) 0 (2 : Int32)) (7, 2, 0) 1 (5 : Int32)) (8, 2, 0) 2 (sp_1 (5 : Int32))), fl, (xm_up (xm_up (xm_up (xm_up (xm_up (xm_up (xm_up (xm_up (xm_up (xm_up (xm_up (xm_up (xm_up (xm_up (xm_up (xm_up (xm_up (xm_up (xm_up (xm_up (xm_up (xm_up (xm_up (xm_up r (7, 2, 0) 4 (some (8, 2, 0))) (9, 2, 0) 0 (some (10, 2, 0))) (7, 2, 0) 5 (some (9, 2, 0))) (7, 2, 0) 6 (some (11, 2, 0))) (9, 2, 6) 0 (some (10, 2, 6))) (11, 2, 0) 0 (some (9, 2, 6))) (9, 2, 7) 0 (some (10, 2, 7))) (11, 2, 0) 1 (some (9, 2, 7))) (9, 2, 8) 0 (some (10, 2, 8))) (11, 2, 0) 2 (some (9, 2, 8))) (9, 2, 9) 0 (some (10, 2, 9))) (11, 2, 0) 3 (some (9, 2, 9))) (9, 2, 10) 0 (some (10, 2, 10))) (11, 2, 0) 4 (some (9, 2, 10))) (7, 2, 0) 7 (some (12, 2, 0))) (9, 2, 2) 0 (some (10, 2, 2))) (12, 2, 0) 0 (some (9, 2, 2))) (9, 2, 3) 0 (some (10, 2, 3))) (12, 2, 0) 1 (some (9, 2, 3))) (9, 2, 4) 0 (some (10, 2, 4))) (12, 2, 0) 2 (some (9, 2, 4))) (9, 2, 5) 0 (some (10, 2, 5))) (12, 2, 0) 3 (some (9, 2, 5))) (9, 2, 1) 0 (some (10, 2, 1)))) R
  refine pg_43_122 (en_ok (by decide +kernel)) ?_
  refine pg_43_125 rfl ?_
  refine pg_43_126 rfl ?_
  refine pg_43_127 (n := 5) (rfl : (5 : Int32) = nI 5) (by decide) (en_a (a := (13, 2, 0)) (by decide +kernel)) (en_k (by decide +kernel)) ?_
  show xm_G (en 5 L) (d + 1) true 43 129 [some (xm_r (7, 2, 0)), some (xm_i (2 : Int32)), some (xm_i (5 : Int32)), some (xm_i (4 : Int32))] [xm_r (13, 2, 0), xm_r (7, 2, 0)] ((88, 368), (xm_up (xm_up (xm_up fi (7, 2, 0) 0 (2 : Int32)) (7, 2, 0) 1 (5 : Int32)) (8, 2, 0) 2 (sp_1 (5 : Int32))), fl, (xm_up (xm_up (xm_up (xm_up (xm_up (xm_up (xm_up (xm_up (xm_up (xm_up (xm_up (xm_up (xm_up (xm_up (xm_up (xm_up (xm_up (xm_up (xm_up (xm_up (xm_up (xm_up (xm_up (xm_up (xm_up r (7, 2, 0) 4 (some (8, 2, 0))) (9, 2, 0) 0 (some (10, 2, 0))) (7, 2, 0) 5 (some (9, 2, 0))) (7, 2, 0) 6 (some (11, 2, 0))) (9, 2, 6) 0 (some (10, 2, 6))) (11, 2, 0) 0 (some (9, 2, 6))) (9, 2, 7) 0 (some (10, 2, 7))) (11, 2, 0) 1 (some (9, 2, 7))) (9, 2, 8) 0 (some (10, 2, 8))) (11, 2, 0) 2 (some (9, 2, 8))) (9, 2, 9) 0 (some (10, 2, 9))) (11, 2, 0) 3 (some (9, 2, 9))) (9, 2, 10) 0 (some (10, 2, 10))) (11, 2, 0) 4 (some (9, 2, 10))) (7, 2, 0) 7 (some (12, 2, 0))) (9, 2, 2) 0 (some (10, 2, 2))) (12, 2, 0) 0 (some (9, 2, 2))) (9, 2, 3) 0 (some (10, 2, 3))) (12, 2, 0) 1 (some (9, 2, 3))) (9, 2, 4) 0 (some (10, 2, 4))) (12, 2, 0) 2 (some (9, 2, 4))) (9, 2, 5) 0 (some (10, 2, 5))) (12, 2, 0) 3 (some (9, 2, 5))) (9, 2, 1) 0 (some (10, 2, 1))) (7, 2, 0) 8 (some (9, 2, 1)))) R
  refine pg_43_129 (en_ok (by decide +kernel)) ?_
  exact go_eq hR.symm (pg_43_132)
def cf_43_5_3 (fi : FI) : FI := (xm_up (xm_up (xm_up fi (7, 3, 0) 0 (3 : Int32)) (7, 3, 0) 1 (5 : Int32)) (8, 3, 0) 2 (sp_1 (5 : Int32)))
def cr_43_5_3 (r : xm_I → Nat → Option xm_I) : xm_I → Nat → Option xm_I := (xm_up (xm_up (xm_up (xm_up (xm_up (xm_up (xm_up (xm_up (xm_up (xm_up (xm_up (xm_up (xm_up (xm_up (xm_up (xm_up (xm_up (xm_up (xm_up (xm_up (xm_up (xm_up (xm_up (xm_up (xm_up (xm_up r (7, 3, 0) 4 (some (8, 3, 0))) (9, 3, 0) 0 (some (10, 3, 0))) (7, 3, 0) 5 (some (9, 3, 0))) (7, 3, 0) 6 (some (11, 3, 0))) (9, 3, 6) 0 (some (10, 3, 6))) (11, 3, 0) 0 (some (9, 3, 6))) (9, 3, 7) 0 (some (10, 3, 7))) (11, 3, 0) 1 (some (9, 3, 7))) (9, 3, 8) 0 (some (10, 3, 8))) (11, 3, 0) 2 (some (9, 3, 8))) (9, 3, 9) 0 (some (10, 3, 9))) (11, 3, 0) 3 (some (9, 3, 9))) (9, 3, 10) 0 (some (10, 3, 10))) (11, 3, 0) 4 (some (9, 3, 10))) (7, 3, 0) 7 (some (12, 3, 0))) (9, 3, 2) 0 (some (10, 3, 2))) (12, 3, 0) 0 (some (9, 3, 2))) (9, 3, 3) 0 (some (10, 3, 3))) (12, 3, 0) 1 (some (9, 3, 3))) (9, 3, 4) 0 (some (10, 3, 4))) (12, 3, 0) 2 (some (9, 3, 4))) (9, 3, 5) 0 (some (10, 3, 5))) (12, 3, 0) 3 (some (9, 3, 5))) (9, 3, 1) 0 (some (10, 3, 1))) (7, 3, 0) 8 (some (9, 3, 1))) (7, 3, 0) 9 (some (13, 3, 0)))
set_option maxRecDepth 8000 in
theorem ct_43_5_3 {L : Nat} {fi : FI} {fl : FL} {r : xm_I → Nat → Option xm_I} {d : Nat} : xm_C (en 5 L) (d + 2) true 43 [xm_r (7, 3, 0), xm_i (3 : Int32), xm_i (5 : Int32)] ((89, 381), fi, fl, r) (.inl none, ((115, 476), cf_43_5_3 fi, fl, cr_43_5_3 r)) := by
  suffices key : ∀ (E : xm_E) (R : xm_O), E = en 5 L → ((.inl none, ((115, 476), cf_43_5_3 fi, fl, cr_43_5_3 r)) : xm_O) = R → xm_G (en 5 L) (d + 1) true 43 0 [some (xm_r (7, 3, 0)), some (xm_i (3 : Int32)), some (xm_i (5 : Int32)), none] [] ((89, 381), fi, fl, r) R from go_inr (by decide) (Nat.le_of_ble_eq_true rfl) (key _ _ rfl rfl)
  intro E R hE hR
  refine pg_43_0 rfl ?_
  refine pg_43_1 (Nat.le_of_ble_eq_true rfl) ?_
  refine pg_43_4 rfl ?_
  refine pg_43_5 rfl ?_
  refine pg_43_6 (en_ok (by decide +kernel)) ?_
  refine pg_43_9 rfl ?_
  refine pg_43_10 rfl ?_
  refine pg_43_11 (en_ok (by decide +kernel)) ?_
  refine pg_43_14 rfl ?_
  refine pg_43_15 ?_
  refine pg_43_16 (n := 4) (rfl : (4 : Int32) = nI 4) (by decide) (en_a (a := (8, 3, 0)) (by decide +kernel)) (en_k (by decide +kernel)) ?_
  show xm_G (en 5 L) (d + 1) true 43 18 [some (xm_r (7, 3, 0)), some (xm_i (3 : Int32)), some (xm_i (5 : Int32)), none] [xm_r (8, 3, 0), xm_r (7, 3, 0)] ((90, 385), (xm_up (xm_up fi (7, 3, 0) 0 (3 : Int32)) (7, 3, 0) 1 (5 : Int32)), fl, r) R
  refine pg_43_18 (en_ok (by decide +kernel)) ?_
  refine pg_43_21 rfl ?_
  refine pg_43_22 (en_ok (by decide +kernel)) rfl ?_
  refine pg_43_25 ?_
  refine pg_43_26 rfl ?_
  refine pg_43_27 (Nat.le_of_ble_eq_true rfl) (ct_1 (x := (5 : Int32))) ?_
  refine pg_43_30 (en_ok (s := 4) (by decide +kernel)) (i := 2) (rfl : (2 : Int32) = nI 2) (by omega) (by omega) ?_
  refine pg_43_31 rfl ?_
  refine pg_43_32 (a := (9, 3, 0)) (en_a (by decide +kernel)) (en_k (by decide +kernel)) ?_
  show xm_G (en 5 L) (d + 1) true 43 35 [some (xm_r (7, 3, 0)), some (xm_i (3 : Int32)), some (xm_i (5 : Int32)), none] [xm_r (9, 3, 0), xm_r (7, 3, 0)] ((91, 387), (xm_up (xm_up (xm_up fi (7, 3, 0) 0 (3 : Int32)) (7, 3, 0) 1 (5 : Int32)) (8, 3, 0) 2 (sp_1 (5 : Int32))), fl, (xm_up r (7, 3, 0) 4 (some (8, 3, 0)))) R
  refine pg_43_35 rfl ?_
  refine pg_43_36 rfl ?_
  refine pg_43_37 (Nat.le_of_ble_eq_true rfl) (ct_61 (m := 5) (b := (10, 3, 0)) (rfl : (5 : Int32) = nI 5) (by decide) (en_a (by decide +kernel)) (en_k (by decide +kernel)) (en_ok (by decide +kernel))) ?_
  show xm_G (en 5 L) (d + 1) true 43 40 [some (xm_r (7, 3, 0)), some (xm_i (3 : Int32)), some (xm_i (5 : Int32)), none] [xm_r (9, 3, 0), xm_r (7, 3, 0)] ((92, 392), (xm_up (xm_up (xm_up fi (7, 3, 0) 0 (3 : Int32)) (7, 3, 0) 1 (5 : Int32)) (8, 3, 0) 2 (sp_1 (5 : Int32))), fl, (xm_up (xm_up r (7, 3, 0) 4 (some (8, 3, 0))) (9, 3, 0) 0 (some (10, 3, 0)))) R
  refine pg_43_40 (en_ok (by decide +kernel)) ?_
  refine pg_43_43 rfl ?_
  refine pg_43_44 rfl ?_
  refine pg_43_45 (n := 5) (rfl : (5 : Int32) = nI 5) (by decide) (en_a (a := (11, 3, 0)) (by decide +kernel)) (en_k (by decide +kernel)) ?_
  show xm_G (en 5 L) (d + 1) true 43 48 [some (xm_r (7, 3, 0)), some (xm_i (3 : Int32)), some (xm_i (5 : Int32)), none] [xm_r (11, 3, 0), xm_r (7, 3, 0)] ((93, 397), (xm_up (xm_up (xm_up fi (7, 3, 0) 0 (3 : Int32)) (7, 3, 0) 1 (5 : Int32)) (8, 3, 0) 2 (sp_1 (5 : Int32))), fl, (xm_up (xm_up (xm_up r (7, 3, 0) 4 (some (8, 3, 0))) (9, 3, 0) 0 (some (10, 3, 0))) (7, 3, 0) 5 (some (9, 3, 0)))) R
  refine pg_43_48 (en_ok (by decide +kernel)) ?_
  refine pg_43_51 ?_
  refine pg_43_52 (lv' := [some (xm_r (7, 3, 0)), some (xm_i (3 : Int32)), some (xm_i (5 : Int32)), some (xm_i (0 : Int32))]) rfl ?_
  refine pg_43_53 rfl ?_
  refine pg_43_54 rfl ?_
  refine pg_43_55 (fun hc => absurd hc (by decide)) (fun _ => ?_)
  refine pg_43_58 rfl ?_
  refine pg_43_59 (en_ok (by decide +kernel)) rfl ?_
  refine pg_43_62 rfl ?_
  refine pg_43_63 (a := (9, 3, 6)) (en_a (by decide +kernel)) (en_k (by decide +kernel)) ?_
  show xm_G (en 5 L) (d + 1) true 43 66 [some (xm_r (7, 3, 0)), some (xm_i (3 : Int32)), some (xm_i (5 : Int32)), some (xm_i (0 : Int32))] [xm_r (9, 3, 6), xm_i (0 : Int32), xm_r (11, 3, 0)] ((94, 399), (xm_up (xm_up (xm_up fi (7, 3, 0) 0 (3 : Int32)) (7, 3, 0) 1 (5 : Int32)) (8, 3, 0) 2 (sp_1 (5 : Int32))), fl, (xm_up (xm_up (xm_up (xm_up r (7, 3, 0) 4 (some (8, 3, 0))) (9, 3, 0) 0 (some (10, 3, 0))) (7, 3, 0) 5 (some (9, 3, 0))) (7, 3, 0) 6 (some (11, 3, 0)))) R
  refine pg_43_66 rfl ?_
  refine pg_43_67 rfl ?_
  refine pg_43_68 (Nat.le_of_ble_eq_true rfl) (ct_61 (m := 5) (b := (10, 3, 6)) (rfl : (5 : Int32) = nI 5) (by decide) (en_a (by decide +kernel)) (en_k (by decide +kernel)) (en_ok (by decide +kernel))) ?_
  show xm_G (en 5 L) (d + 1) true 43 71 [some (xm_r (7, 3, 0)), some (xm_i (3 : Int32)), some (xm_i (5 : Int32)), some (xm_i (0 : Int32))] [xm_r (9, 3, 6), xm_i (0 : Int32), xm_r (11, 3, 0)] ((95, 404), (xm_up (xm_up (xm_up fi (7, 3, 0) 0 (3 : Int32)) (7, 3, 0) 1 (5 : Int32)) (8, 3, 0) 2 (sp_1 (5 : Int32))), fl, (xm_up (xm_up (xm_up (xm_up (xm_up r (7, 3, 0) 4 (some (8, 3, 0))) (9, 3, 0) 0 (some (10, 3, 0))) (7, 3, 0) 5 (some (9, 3, 0))) (7, 3, 0) 6 (some (11, 3, 0))) (9, 3, 6) 0 (some (10, 3, 6)))) R
  refine pg_43_71 (en_ok (t := 4) (s := 0) (by decide +kernel)) (by decide) (by decide) (en_ok (s := 5) (by decide +kernel)) (i := 0) (rfl : (0 : Int32) = nI 0) (by decide) (by decide) ?_
  refine pg_43_72 (y := (1 : Int32)) (lv' := [some (xm_r (7, 3, 0)), some (xm_i (3 : Int32)), some (xm_i (5 : Int32)), some (xm_i (1 : Int32))]) rfl (by decide) rfl ?_
  refine pg_43_75 ?_
  refine pg_43_53 rfl ?_
  refine pg_43_54 rfl ?_
  refine pg_43_55 (fun hc => absurd hc (by decide)) (fun _ => ?_)
  refine pg_43_58 rfl ?_
  refine pg_43_59 (en_ok (by decide +kernel)) rfl ?_
  refine pg_43_62 rfl ?_
  refine pg_43_63 (a := (9, 3, 7)) (en_a (by decide +kernel)) (en_k (by decide +kernel)) ?_
  show xm_G (en 5 L) (d + 1) true 43 66 [some (xm_r (7, 3, 0)), some (xm_i (3 : Int32)), some (xm_i (5 : Int32)), some (xm_i (1 : Int32))] [xm_r (9, 3, 7), xm_i (1 : Int32), xm_r (11, 3, 0)] ((96, 406), (xm_up (xm_up (xm_up fi (7, 3, 0) 0 (3 : Int32)) (7, 3, 0) 1 (5 : Int32)) (8, 3, 0) 2 (sp_1 (5 : Int32))), fl, (xm_up (xm_up (xm_up (xm_up (xm_up (xm_up r (7, 3, 0) 4 (some (8, 3, 0))) (9, 3, 0) 0 (some (10, 3, 0))) (7, 3, 0) 5 (some (9, 3, 0))) (7, 3, 0) 6 (some (11, 3, 0))) (9, 3, 6) 0 (some (10, 3, 6))) (11, 3, 0) 0 (some (9, 3, 6)))) R
  refine pg_43_66 rfl ?_
  refine pg_43_67 rfl ?_
  refine pg_43_68 (Nat.le_of_ble_eq_true rfl) (ct_61 (m := 5) (b := (10, 3, 7)) (rfl : (5 : Int32) = nI 5) (by decide) (en_a (by decide +kernel)) (en_k (by decide +kernel)) (en_ok (by decide +kernel))) ?_
  show xm_G (en 5 L) (d + 1) true 43 71 [some (xm_r (7, 3, 0)), some (xm_i (3 : Int32)), some (xm_i (5 : Int32)), some (xm_i (1 : Int32))] [xm_r (9, 3, 7), xm_i (1 : Int32), xm_r (11, 3, 0)] ((97, 411), (xm_up (xm_up (xm_up fi (7, 3, 0) 0 (3 : Int32)) (7, 3, 0) 1 (5 : Int32)) (8, 3, 0) 2 (sp_1 (5 : Int32))), fl, (xm_up (xm_up (xm_up (xm_up (xm_up (xm_up (xm_up r (7, 3, 0) 4 (some (8, 3, 0))) (9, 3, 0) 0 (some (10, 3, 0))) (7, 3, 0) 5 (some (9, 3, 0))) (7, 3, 0) 6 (some (11, 3, 0))) (9, 3, 6) 0 (some (10, 3, 6))) (11, 3, 0) 0 (some (9, 3, 6))) (9, 3, 7) 0 (some (10, 3, 7)))) R
  refine pg_43_71 (en_ok (t := 4) (s := 0) (by decide +kernel)) (by decide) (by decide) (en_ok (s := 5) (by decide +kernel)) (i := 1) (rfl : (1 : Int32) = nI 1) (by decide) (by decide) ?_
  refine pg_43_72 (y := (2 : Int32)) (lv' := [some (xm_r (7, 3, 0)), some (xm_i (3 : Int32)), some (xm_i (5 : Int32)), some (xm_i (2 : Int32))]) rfl (by decide) rfl ?_
  refine pg_43_75 ?_
  refine pg_43_53 rfl ?_
  refine pg_43_54 rfl ?_
  refine pg_43_55 (fun hc => absurd hc (by decide)) (fun _ => ?_)
  refine pg_43_58 rfl ?_
  refine pg_43_59 (en_ok (by decide +kernel)) rfl ?_
  refine pg_43_62 rfl ?_
  refine pg_43_63 (a := (9, 3, 8)) (en_a (by decide +kernel)) (en_k (by decide +kernel)) ?_
  show xm_G (en 5 L) (d + 1) true 43 66 [some (xm_r (7, 3, 0)), some (xm_i (3 : Int32)), some (xm_i (5 : Int32)), some (xm_i (2 : Int32))] [xm_r (9, 3, 8), xm_i (2 : Int32), xm_r (11, 3, 0)] ((98, 413), (xm_up (xm_up (xm_up fi (7, 3, 0) 0 (3 : Int32)) (7, 3, 0) 1 (5 : Int32)) (8, 3, 0) 2 (sp_1 (5 : Int32))), fl, (xm_up (xm_up (xm_up (xm_up (xm_up (xm_up (xm_up (xm_up r (7, 3, 0) 4 (some (8, 3, 0))) (9, 3, 0) 0 (some (10, 3, 0))) (7, 3, 0) 5 (some (9, 3, 0))) (7, 3, 0) 6 (some (11, 3, 0))) (9, 3, 6) 0 (some (10, 3, 6))) (11, 3, 0) 0 (some (9, 3, 6))) (9, 3, 7) 0 (some (10, 3, 7))) (11, 3, 0) 1 (some (9, 3, 7)))) R
  refine pg_43_66 rfl ?_
  refine pg_43_67 rfl ?_
  refine pg_43_68 (Nat.le_of_ble_eq_true rfl) (ct_61 (m := 5) (b := (10, 3, 8)) (rfl : (5 : Int32) = nI 5) (by decide) (en_a (by decide +kernel)) (en_k (by decide +kernel)) (en_ok (by decide +kernel))) ?_
  show xm_G (en 5 L) (d + 1) true 43 71 [some (xm_r (7, 3, 0)), some (xm_i (3 : Int32)), some (xm_i (5 : Int32)), some (xm_i (2 : Int32))] [xm_r (9, 3, 8), xm_i (2 : Int32), xm_r (11, 3, 0)] ((99, 418), (xm_up (xm_up (xm_up fi (7, 3, 0) 0 (3 : Int32)) (7, 3, 0) 1 (5 : Int32)) (8, 3, 0) 2 (sp_1 (5 : Int32))), fl, (xm_up (xm_up (xm_up (xm_up (xm_up (xm_up (xm_up (xm_up (xm_up r (7, 3, 0) 4 (some (8, 3, 0))) (9, 3, 0) 0 (some (10, 3, 0))) (7, 3, 0) 5 (some (9, 3, 0))) (7, 3, 0) 6 (some (11, 3, 0))) (9, 3, 6) 0 (some (10, 3, 6))) (11, 3, 0) 0 (some (9, 3, 6))) (9, 3, 7) 0 (some (10, 3, 7))) (11, 3, 0) 1 (some (9, 3, 7))) (9, 3, 8) 0 (some (10, 3, 8)))) R
  refine pg_43_71 (en_ok (t := 4) (s := 0) (by decide +kernel)) (by decide) (by decide) (en_ok (s := 5) (by decide +kernel)) (i := 2) (rfl : (2 : Int32) = nI 2) (by decide) (by decide) ?_
  refine pg_43_72 (y := (3 : Int32)) (lv' := [some (xm_r (7, 3, 0)), some (xm_i (3 : Int32)), some (xm_i (5 : Int32)), some (xm_i (3 : Int32))]) rfl (by decide) rfl ?_
  refine pg_43_75 ?_
  refine pg_43_53 rfl ?_
  refine pg_43_54 rfl ?_
  refine pg_43_55 (fun hc => absurd hc (by decide)) (fun _ => ?_)
  refine pg_43_58 rfl ?_
  refine pg_43_59 (en_ok (by decide +kernel)) rfl ?_
  refine pg_43_62 rfl ?_
  refine pg_43_63 (a := (9, 3, 9)) (en_a (by decide +kernel)) (en_k (by decide +kernel)) ?_
  show xm_G (en 5 L) (d + 1) true 43 66 [some (xm_r (7, 3, 0)), some (xm_i (3 : Int32)), some (xm_i (5 : Int32)), some (xm_i (3 : Int32))] [xm_r (9, 3, 9), xm_i (3 : Int32), xm_r (11, 3, 0)] ((100, 420), (xm_up (xm_up (xm_up fi (7, 3, 0) 0 (3 : Int32)) (7, 3, 0) 1 (5 : Int32)) (8, 3, 0) 2 (sp_1 (5 : Int32))), fl, (xm_up (xm_up (xm_up (xm_up (xm_up (xm_up (xm_up (xm_up (xm_up (xm_up r (7, 3, 0) 4 (some (8, 3, 0))) (9, 3, 0) 0 (some (10, 3, 0))) (7, 3, 0) 5 (some (9, 3, 0))) (7, 3, 0) 6 (some (11, 3, 0))) (9, 3, 6) 0 (some (10, 3, 6))) (11, 3, 0) 0 (some (9, 3, 6))) (9, 3, 7) 0 (some (10, 3, 7))) (11, 3, 0) 1 (some (9, 3, 7))) (9, 3, 8) 0 (some (10, 3, 8))) (11, 3, 0) 2 (some (9, 3, 8)))) R
  refine pg_43_66 rfl ?_
  refine pg_43_67 rfl ?_
  refine pg_43_68 (Nat.le_of_ble_eq_true rfl) (ct_61 (m := 5) (b := (10, 3, 9)) (rfl : (5 : Int32) = nI 5) (by decide) (en_a (by decide +kernel)) (en_k (by decide +kernel)) (en_ok (by decide +kernel))) ?_
  show xm_G (en 5 L) (d + 1) true 43 71 [some (xm_r (7, 3, 0)), some (xm_i (3 : Int32)), some (xm_i (5 : Int32)), some (xm_i (3 : Int32))] [xm_r (9, 3, 9), xm_i (3 : Int32), xm_r (11, 3, 0)] ((101, 425), (xm_up (xm_up (xm_up fi (7, 3, 0) 0 (3 : Int32)) (7, 3, 0) 1 (5 : Int32)) (8, 3, 0) 2 (sp_1 (5 : Int32))), fl, (xm_up (xm_up (xm_up (xm_up (xm_up (xm_up (xm_up (xm_up (xm_up (xm_up (xm_up r (7, 3, 0) 4 (some (8, 3, 0))) (9, 3, 0) 0 (some (10, 3, 0))) (7, 3, 0) 5 (some (9, 3, 0))) (7, 3, 0) 6 (some (11, 3, 0))) (9, 3, 6) 0 (some (10, 3, 6))) (11, 3, 0) 0 (some (9, 3, 6))) (9, 3, 7) 0 (some (10, 3, 7))) (11, 3, 0) 1 (some (9, 3, 7))) (9, 3, 8) 0 (some (10, 3, 8))) (11, 3, 0) 2 (some (9, 3, 8))) (9, 3, 9) 0 (some (10, 3, 9)))) R
  refine pg_43_71 (en_ok (t := 4) (s := 0) (by decide +kernel)) (by decide) (by decide) (en_ok (s := 5) (by decide +kernel)) (i := 3) (rfl : (3 : Int32) = nI 3) (by decide) (by decide) ?_
  refine pg_43_72 (y := (4 : Int32)) (lv' := [some (xm_r (7, 3, 0)), some (xm_i (3 : Int32)), some (xm_i (5 : Int32)), some (xm_i (4 : Int32))]) rfl (by decide) rfl ?_
  refine pg_43_75 ?_
  refine pg_43_53 rfl ?_
  refine pg_43_54 rfl ?_
  refine pg_43_55 (fun hc => absurd hc (by decide)) (fun _ => ?_)
  refine pg_43_58 rfl ?_
  refine pg_43_59 (en_ok (by decide +kernel)) rfl ?_
  refine pg_43_62 rfl ?_
  refine pg_43_63 (a := (9, 3, 10)) (en_a (by decide +kernel)) (en_k (by decide +kernel)) ?_
  show xm_G (en 5 L) (d + 1) true 43 66 [some (xm_r (7, 3, 0)), some (xm_i (3 : Int32)), some (xm_i (5 : Int32)), some (xm_i (4 : Int32))] [xm_r (9, 3, 10), xm_i (4 : Int32), xm_r (11, 3, 0)] ((102, 427), (xm_up (xm_up (xm_up fi (7, 3, 0) 0 (3 : Int32)) (7, 3, 0) 1 (5 : Int32)) (8, 3, 0) 2 (sp_1 (5 : Int32))), fl, (xm_up (xm_up (xm_up (xm_up (xm_up (xm_up (xm_up (xm_up (xm_up (xm_up (xm_up (xm_up r (7, 3, 0) 4 (some (8, 3, 0))) (9, 3, 0) 0 (some (10, 3, 0))) (7, 3, 0) 5 (some (9, 3, 0))) (7, 3, 0) 6 (some (11, 3, 0))) (9, 3, 6) 0 (some (10, 3, 6))) (11, 3, 0) 0 (some (9, 3, 6))) (9, 3, 7) 0 (some (10, 3, 7))) (11, 3, 0) 1 (some (9, 3, 7))) (9, 3, 8) 0 (some (10, 3, 8))) (11, 3, 0) 2 (some (9, 3, 8))) (9, 3, 9) 0 (some (10, 3, 9))) (11, 3, 0) 3 (some (9, 3, 9)))) R
  refine pg_43_66 rfl ?_
  refine pg_43_67 rfl ?_
  refine pg_43_68 (Nat.le_of_ble_eq_true rfl) (ct_61 (m := 5) (b := (10, 3, 10)) (rfl : (5 : Int32) = nI 5) (by decide) (en_a (by decide +kernel)) (en_k (by decide +kernel)) (en_ok (by decide +kernel))) ?_
  show xm_G (en 5 L) (d + 1) true 43 71 [some (xm_r (7, 3, 0)), some (xm_i (3 : Int32)), some (xm_i (5 : Int32)), some (xm_i (4 : Int32))] [xm_r (9, 3, 10), xm_i (4 : Int32), xm_r (11, 3, 0)] ((103, 432), (xm_up (xm_up (xm_up fi (7, 3, 0) 0 (3 : Int32)) (7, 3, 0) 1 (5 : Int32)) (8, 3, 0) 2 (sp_1 (5 : Int32))), fl, (xm_up (xm_up (xm_up (xm_up (xm_up (xm_up (xm_up (xm_up (xm_up (xm_up (xm_up (xm_up (xm_up r (7, 3, 0) 4 (some (8, 3, 0))) (9, 3, 0) 0 (some (10, 3, 0))) (7, 3, 0) 5 (some (9, 3, 0))) (7, 3, 0) 6 (some (11, 3, 0))) (9, 3, 6) 0 (some (10, 3, 6))) (11, 3, 0) 0 (some (9, 3, 6))) (9, 3, 7) 0 (some (10, 3, 7))) (11, 3, 0) 1 (some (9, 3, 7))) (9, 3, 8) 0 (some (10, 3, 8))) (11, 3, 0) 2 (some (9, 3, 8))) (9, 3, 9) 0 (some (10, 3, 9))) (11, 3, 0) 3 (some (9, 3, 9))) (9, 3, 10) 0 (some (10, 3, 10)))) R
  refine pg_43_71 (en_ok (t := 4) (s := 0) (by decide +kernel)) (by decide) (by decide) (en_ok (s := 5) (by decide +kernel)) (i := 4) (rfl : (4 : Int32) = nI 4) (by decide) (by decide) ?_
  refine pg_43_72 (y := (5 : Int32)) (lv' := [some (xm_r (7, 3, 0)), some (xm_i (3 : Int32)), some (xm_i (5 : Int32)), some (xm_i (5 : Int32))]) rfl (by decide) rfl ?_
  refine pg_43_75 ?_
  refine pg_43_53 rfl ?_
  refine pg_43_54 rfl ?_
  refine pg_43_55 (fun _ => ?_) (fun hc => absurd (by decide) hc)
  refine pg_43_78 rfl ?_
  refine pg_43_79 ?_
  refine pg_43_80 (n := 4) (rfl : (4 : Int32) = nI 4) (by decide) (en_a (a := (12, 3, 0)) (by decide +kernel)) (en_k (by decide +kernel)) ?_
  show xm_G (en 5 L) (d + 1) true 43 83 [some (xm_r (7, 3, 0)), some (xm_i (3 : Int32)), some (xm_i (5 : Int32)), some (xm_i (5 : Int32))] [xm_r (12, 3, 0), xm_r (7, 3, 0)] ((104, 436), (xm_up (xm_up (xm_up fi (7, 3, 0) 0 (3 : Int32)) (7, 3, 0) 1 (5 : Int32)) (8, 3, 0) 2 (sp_1 (5 : Int32))), fl, (xm_up (xm_up (xm_up (xm_up (xm_up (xm_up (xm_up (xm_up (xm_up (xm_up (xm_up (xm_up (xm_up (xm_up r (7, 3, 0) 4 (some (8, 3, 0))) (9, 3, 0) 0 (some (10, 3, 0))) (7, 3, 0) 5 (some (9, 3, 0))) (7, 3, 0) 6 (some (11, 3, 0))) (9, 3, 6) 0 (some (10, 3, 6))) (11, 3, 0) 0 (some (9, 3, 6))) (9, 3, 7) 0 (some (10, 3, 7))) (11, 3, 0) 1 (some (9, 3, 7))) (9, 3, 8) 0 (some (10, 3, 8))) (11, 3, 0) 2 (some (9, 3, 8))) (9, 3, 9) 0 (some (10, 3, 9))) (11, 3, 0) 3 (some (9, 3, 9))) (9, 3, 10) 0 (some (10, 3, 10))) (11, 3, 0) 4 (some (9, 3, 10)))) R
  refine pg_43_83 (en_ok (by decide +kernel)) ?_
  refine pg_43_86 ?_
  refine pg_43_87 (lv' := [some (xm_r (7, 3, 0)), some (xm_i (3 : Int32)), some (xm_i (5 : Int32)), some (xm_i (0 : Int32))]) rfl ?_
  refine pg_43_88 rfl ?_
  refine pg_43_89 ?_
  refine pg_43_90 (fun hc => absurd hc (by decide)) (fun _ => ?_)
  refine pg_43_93 rfl ?_
  refine pg_43_94 (en_ok (by decide +kernel)) rfl ?_
  refine pg_43_97 rfl ?_
  refine pg_43_98 (a := (9, 3, 2)) (en_a (by decide +kernel)) (en_k (by decide +kernel)) ?_
  show xm_G (en 5 L) (d + 1) true 43 101 [some (xm_r (7, 3, 0)), some (xm_i (3 : Int32)), some (xm_i (5 : Int32)), some (xm_i (0 : Int32))] [xm_r (9, 3, 2), xm_i (0 : Int32), xm_r (12, 3, 0)] ((105, 438), (xm_up (xm_up (xm_up fi (7, 3, 0) 0 (3 : Int32)) (7, 3, 0) 1 (5 : Int32)) (8, 3, 0) 2 (sp_1 (5 : Int32))), fl, (xm_up (xm_up (xm_up (xm_up (xm_up (xm_up (xm_up (xm_up (xm_up (xm_up (xm_up (xm_up (xm_up (xm_up (xm_up r (7, 3, 0) 4 (some (8, 3, 0))) (9, 3, 0) 0 (some (10, 3, 0))) (7, 3, 0) 5 (some (9, 3, 0))) (7, 3, 0) 6 (some (11, 3, 0))) (9, 3, 6) 0 (some (10, 3, 6))) (11, 3, 0) 0 (some (9, 3, 6))) (9, 3, 7) 0 (some (10, 3, 7))) (11, 3, 0) 1 (some (9, 3, 7))) (9, 3, 8) 0 (some (10, 3, 8))) (11, 3, 0) 2 (some (9, 3, 8))) (9, 3, 9) 0 (some (10, 3, 9))) (11, 3, 0) 3 (some (9, 3, 9))) (9, 3, 10) 0 (some (10, 3, 10))) (11, 3, 0) 4 (some (9, 3, 10))) (7, 3, 0) 7 (some (12, 3, 0)))) R
  refine pg_43_101 rfl ?_
  refine pg_43_102 rfl ?_
  refine pg_43_103 (Nat.le_of_ble_eq_true rfl) (ct_61 (m := 5) (b := (10, 3, 2)) (rfl : (5 : Int32) = nI 5) (by decide) (en_a (by decide +kernel)) (en_k (by decide +kernel)) (en_ok (by decide +kernel))) ?_
  show xm_G (en 5 L) (d + 1) true 43 106 [some (xm_r (7, 3, 0)), some (xm_i (3 : Int32)), some (xm_i (5 : Int32)), some (xm_i (0 : Int32))] [xm_r (9, 3, 2), xm_i (0 : Int32), xm_r (12, 3, 0)] ((106, 443), (xm_up (xm_up (xm_up fi (7, 3, 0) 0 (3 : Int32)) (7, 3, 0) 1 (5 : Int32)) (8, 3, 0) 2 (sp_1 (5 : Int32))), fl, (xm_up (xm_up (xm_up (xm_up (xm_up (xm_up (xm_up (xm_up (xm_up (xm_up (xm_up (xm_up (xm_up (xm_up (xm_up (xm_up r (7, 3, 0) 4 (some (8, 3, 0))) (9, 3, 0) 0 (some (10, 3, 0))) (7, 3, 0) 5 (some (9, 3, 0))) (7, 3, 0) 6 (some (11, 3, 0))) (9, 3, 6) 0 (some (10, 3, 6))) (11, 3, 0) 0 (some (9, 3, 6))) (9, 3, 7) 0 (some (10, 3, 7))) (11, 3, 0) 1 (some (9, 3, 7))) (9, 3, 8) 0 (some (10, 3, 8))) (11, 3, 0) 2 (some (9, 3, 8))) (9, 3, 9) 0 (some (10, 3, 9))) (11, 3, 0) 3 (some (9, 3, 9))) (9, 3, 10) 0 (some (10, 3, 10))) (11, 3, 0) 4 (some (9, 3, 10))) (7, 3, 0) 7 (some (12, 3, 0))) (9, 3, 2) 0 (some (10, 3, 2)))) R
  refine pg_43_106 (en_ok (t := 4) (s := 0) (by decide +kernel)) (by decide) (by decide) (en_ok (s := 4) (by decide +kernel)) (i := 0) (rfl : (0 : Int32) = nI 0) (by decide) (by decide) ?_
  refine pg_43_107 (y := (1 : Int32)) (lv' := [some (xm_r (7, 3, 0)), some (xm_i (3 : Int32)), some (xm_i (5 : Int32)), some (xm_i (1 : Int32))]) rfl (by decide) rfl ?_
  refine pg_43_110 ?_
  refine pg_43_88 rfl ?_
  refine pg_43_89 ?_
  refine pg_43_90 (fun hc => absurd hc (by decide)) (fun _ => ?_)
  refine pg_43_93 rfl ?_
  refine pg_43_94 (en_ok (by decide +kernel)) rfl ?_
  refine pg_43_97 rfl ?_
  refine pg_43_98 (a := (9, 3, 3)) (en_a (by decide +kernel)) (en_k (by decide +kernel)) ?_
  show xm_G (en 5 L) (d + 1) true 43 101 [some (xm_r (7, 3, 0)), some (xm_i (3 : Int32)), some (xm_i (5 : Int32)), some (xm_i (1 : Int32))] [xm_r (9, 3, 3), xm_i (1 : Int32), xm_r (12, 3, 0)] ((107, 445), (xm_up (xm_up (xm_up fi (7, 3, 0) 0 (3 : Int32)) (7, 3, 0) 1 (5 : Int32)) (8, 3, 0) 2 (sp_1 (5 : Int32))), fl, (xm_up (xm_up (xm_up (xm_up (xm_up (xm_up (xm_up (xm_up (xm_up (xm_up (xm_up (xm_up (xm_up (xm_up (xm_up (xm_up (xm_up r (7, 3, 0) 4 (some (8, 3, 0))) (9, 3, 0) 0 (some (10, 3, 0))) (7, 3, 0) 5 (some (9, 3, 0))) (7, 3, 0) 6 (some (11, 3, 0))) (9, 3, 6) 0 (some (10, 3, 6))) (11, 3, 0) 0 (some (9, 3, 6))) (9, 3, 7) 0 (some (10, 3, 7))) (11, 3, 0) 1 (some (9, 3, 7))) (9, 3, 8) 0 (some (10, 3, 8))) (11, 3, 0) 2 (some (9, 3, 8))) (9, 3, 9) 0 (some (10, 3, 9))) (11, 3, 0) 3 (some (9, 3, 9))) (9, 3, 10) 0 (some (10, 3, 10))) (11, 3, 0) 4 (some (9, 3, 10))) (7, 3, 0) 7 (some (12, 3, 0))) (9, 3, 2) 0 (some (10, 3, 2))) (12, 3, 0) 0 (some (9, 3, 2)))) R
  refine pg_43_101 rfl ?_
  refine pg_43_102 rfl ?_
  refine pg_43_103 (Nat.le_of_ble_eq_true rfl) (ct_61 (m := 5) (b := (10, 3, 3)) (rfl : (5 : Int32) = nI 5) (by decide) (en_a (by decide +kernel)) (en_k (by decide +kernel)) (en_ok (by decide +kernel))) ?_
  show xm_G (en 5 L) (d + 1) true 43 106 [some (xm_r (7, 3, 0)), some (xm_i (3 : Int32)), some (xm_i (5 : Int32)), some (xm_i (1 : Int32))] [xm_r (9, 3, 3), xm_i (1 : Int32), xm_r (12, 3, 0)] ((108, 450), (xm_up (xm_up (xm_up fi (7, 3, 0) 0 (3 : Int32)) (7, 3, 0) 1 (5 : Int32)) (8, 3, 0) 2 (sp_1 (5 : Int32))), fl, (xm_up (xm_up (xm_up (xm_up (xm_up (xm_up (xm_up (xm_up (xm_up (xm_up (xm_up (xm_up (xm_up (xm_up (xm_up (xm_up (xm_up (xm_up r (7, 3, 0) 4 (some (8, 3, 0))) (9, 3, 0) 0 (some (10, 3, 0))) (7, 3, 0) 5 (some (9, 3, 0))) (7, 3, 0) 6 (some (11, 3, 0))) (9, 3, 6) 0 (some (10, 3, 6))) (11, 3, 0) 0 (some (9, 3, 6))) (9, 3, 7) 0 (some (10, 3, 7))) (11, 3, 0) 1 (some (9, 3, 7))) (9, 3, 8) 0 (some (10, 3, 8))) (11, 3, 0) 2 (some (9, 3, 8))) (9, 3, 9) 0 (some (10, 3, 9))) (11, 3, 0) 3 (some (9, 3, 9))) (9, 3, 10) 0 (some (10, 3, 10))) (11, 3, 0) 4 (some (9, 3, 10))) (7, 3, 0) 7 (some (12, 3, 0))) (9, 3, 2) 0 (some (10, 3, 2))) (12, 3, 0) 0 (some (9, 3, 2))) (9, 3, 3) 0 (some (10, 3, 3)))) R
  refine pg_43_106 (en_ok (t := 4) (s := 0) (by decide +kernel)) (by decide) (by decide) (en_ok (s := 4) (by decide +kernel)) (i := 1) (rfl : (1 : Int32) = nI 1) (by decide) (by decide) ?_
  refine pg_43_107 (y := (2 : Int32)) (lv' := [some (xm_r (7, 3, 0)), some (xm_i (3 : Int32)), some (xm_i (5 : Int32)), some (xm_i (2 : Int32))]) rfl (by decide) rfl ?_
  refine pg_43_110 ?_
  refine pg_43_88 rfl ?_
  refine pg_43_89 ?_
  refine pg_43_90 (fun hc => absurd hc (by decide)) (fun _ => ?_)
  refine pg_43_93 rfl ?_
  refine pg_43_94 (en_ok (by decide +kernel)) rfl ?_
  refine pg_43_97 rfl ?_
  refine pg_43_98 (a := (9, 3, 4)) (en_a (by decide +kernel)) (en_k (by decide +kernel)) ?_
  show xm_G (en 5 L) (d + 1) true 43 101 [some (xm_r (7, 3, 0)), some (xm_i (3 : Int32)), some (xm_i (5 : Int32)), some (xm_i (2 : Int32))] [xm_r (9, 3, 4), xm_i (2 : Int32), xm_r (12, 3, 0)] ((109, 452), (xm_up (xm_up (xm_up fi (7, 3, 0) 0 (3 : Int32)) (7, 3, 0) 1 (5 : Int32)) (8, 3, 0) 2 (sp_1 (5 : Int32))), fl, (xm_up (xm_up (xm_up (xm_up (xm_up (xm_up (xm_up (xm_up (xm_up (xm_up (xm_up (xm_up (xm_up (xm_up (xm_up (xm_up (xm_up (xm_up (xm_up r (7, 3, 0) 4 (some (8, 3, 0))) (9, 3, 0) 0 (some (10, 3, 0))) (7, 3, 0) 5 (some (9, 3, 0))) (7, 3, 0) 6 (some (11, 3, 0))) (9, 3, 6) 0 (some (10, 3, 6))) (11, 3, 0) 0 (some (9, 3, 6))) (9, 3, 7) 0 (some (10, 3, 7))) (11, 3, 0) 1 (some (9, 3, 7))) (9, 3, 8) 0 (some (10, 3, 8))) (11, 3, 0) 2 (some (9, 3, 8))) (9, 3, 9) 0 (some (10, 3, 9))) (11, 3, 0) 3 (some (9, 3, 9))) (9, 3, 10) 0 (some (10, 3, 10))) (11, 3, 0) 4 (some (9, 3, 10))) (7, 3, 0) 7 (some (12, 3, 0))) (9, 3, 2) 0 (some (10, 3, 2))) (12, 3, 0) 0 (some (9, 3, 2))) (9, 3, 3) 0 (some (10, 3, 3))) (12, 3, 0) 1 (some (9, 3, 3)))) R
  refine pg_43_101 rfl ?_
  refine pg_43_102 rfl ?_
  refine pg_43_103 (Nat.le_of_ble_eq_true rfl) (ct_61 (m := 5) (b := (10, 3, 4)) (rfl : (5 : Int32) = nI 5) (by decide) (en_a (by decide +kernel)) (en_k (by decide +kernel)) (en_ok (by decide +kernel))) ?_
  show xm_G (en 5 L) (d + 1) true 43 106 [some (xm_r (7, 3, 0)), some (xm_i (3 : Int32)), some (xm_i (5 : Int32)), some (xm_i (2 : Int32))] [xm_r (9, 3, 4), xm_i (2 : Int32), xm_r (12, 3, 0)] ((110, 457), (xm_up (xm_up (xm_up fi (7, 3, 0) 0 (3 : Int32)) (7, 3, 0) 1 (5 : Int32)) (8, 3, 0) 2 (sp_1 (5 : Int32))), fl, (xm_up (xm_up (xm_up (xm_up (xm_up (xm_up (xm_up (xm_up (xm_up (xm_up (xm_up (xm_up (xm_up (xm_up (xm_up (xm_up (xm_up (xm_up (xm_up (xm_up r (7, 3, 0) 4 (some (8, 3, 0))) (9, 3, 0) 0 (some (10, 3, 0))) (7, 3, 0) 5 (some (9, 3, 0))) (7, 3, 0) 6 (some (11, 3, 0))) (9, 3, 6) 0 (some (10, 3, 6))) (11, 3, 0) 0 (some (9, 3, 6))) (9, 3, 7) 0 (some (10, 3, 7))) (11, 3, 0) 1 (some (9, 3, 7))) (9, 3, 8) 0 (some (10, 3, 8))) (11, 3, 0) 2 (some (9, 3, 8))) (9, 3, 9) 0 (some (10, 3, 9))) (11, 3, 0) 3 (some (9, 3, 9))) (9, 3, 10) 0 (some (10, 3, 10))) (11, 3, 0) 4 (some (9, 3, 10))) (7, 3, 0) 7 (some (12, 3, 0))) (9, 3, 2) 0 (some (10, 3, 2))) (12, 3, 0) 0 (some (9, 3, 2))) (9, 3, 3) 0 (some (10, 3, 3))) (12, 3, 0) 1 (some (9, 3, 3))) (9, 3, 4) 0 (some (10, 3, 4)))) R
  refine pg_43_106 (en_ok (t := 4) (s := 0) (by decide +kernel)) (by decide) (by decide) (en_ok (s := 4) (by decide +kernel)) (i := 2) (rfl : (2 : Int32) = nI 2) (by decide) (by decide) ?_
  refine pg_43_107 (y := (3 : Int32)) (lv' := [some (xm_r (7, 3, 0)), some (xm_i (3 : Int32)), some (xm_i (5 : Int32)), some (xm_i (3 : Int32))]) rfl (by decide) rfl ?_
  refine pg_43_110 ?_
  refine pg_43_88 rfl ?_
  refine pg_43_89 ?_
  refine pg_43_90 (fun hc => absurd hc (by decide)) (fun _ => ?_)
  refine pg_43_93 rfl ?_
  refine pg_43_94 (en_ok (by decide +kernel)) rfl ?_
  refine pg_43_97 rfl ?_
  refine pg_43_98 (a := (9, 3, 5)) (en_a (by decide +kernel)) (en_k (by decide +kernel)) ?_
  show xm_G (en 5 L) (d + 1) true 43 101 [some (xm_r (7, 3, 0)), some (xm_i (3 : Int32)), some (xm_i (5 : Int32)), some (xm_i (3 : Int32))] [xm_r (9, 3, 5), xm_i (3 : Int32), xm_r (12, 3, 0)] ((111, 459), (xm_up (xm_up (xm_up fi (7, 3, 0) 0 (3 : Int32)) (7, 3, 0) 1 (5 : Int32)) (8, 3, 0) 2 (sp_1 (5 : Int32))), fl, (xm_up (xm_up (xm_up (xm_up (xm_up (xm_up (xm_up (xm_up (xm_up (xm_up (xm_up (xm_up (xm_up (xm_up (xm_up (xm_up (xm_up (xm_up (xm_up (xm_up (xm_up r (7, 3, 0) 4 (some (8, 3, 0))) (9, 3, 0) 0 (some (10, 3, 0))) (7, 3, 0) 5 (some (9, 3, 0))) (7, 3, 0) 6 (some (11, 3, 0))) (9, 3, 6) 0 (some (10, 3, 6))) (11, 3, 0) 0 (some (9, 3, 6))) (9, 3, 7) 0 (some (10, 3, 7))) (11, 3, 0) 1 (some (9, 3, 7))) (9, 3, 8) 0 (some (10, 3, 8))) (11, 3, 0) 2 (some (9, 3, 8))) (9, 3, 9) 0 (some (10, 3, 9))) (11, 3, 0) 3 (some (9, 3, 9))) (9, 3, 10) 0 (some (10, 3, 10))) (11, 3, 0) 4 (some (9, 3, 10))) (7, 3, 0) 7 (some (12, 3, 0))) (9, 3, 2) 0 (some (10, 3, 2))) (12, 3, 0) 0 (some (9, 3, 2))) (9, 3, 3) 0 (some (10, 3, 3))) (12, 3, 0) 1 (some (9, 3, 3))) (9, 3, 4) 0 (some (10, 3, 4))) (12, 3, 0) 2 (some (9, 3, 4)))) R
  refine pg_43_101 rfl ?_
  refine pg_43_102 rfl ?_
  refine pg_43_103 (Nat.le_of_ble_eq_true rfl) (ct_61 (m := 5) (b := (10, 3, 5)) (rfl : (5 : Int32) = nI 5) (by decide) (en_a (by decide +kernel)) (en_k (by decide +kernel)) (en_ok (by decide +kernel))) ?_
  show xm_G (en 5 L) (d + 1) true 43 106 [some (xm_r (7, 3, 0)), some (xm_i (3 : Int32)), some (xm_i (5 : Int32)), some (xm_i (3 : Int32))] [xm_r (9, 3, 5), xm_i (3 : Int32), xm_r (12, 3, 0)] ((112, 464), (xm_up (xm_up (xm_up fi (7, 3, 0) 0 (3 : Int32)) (7, 3, 0) 1 (5 : Int32)) (8, 3, 0) 2 (sp_1 (5 : Int32))), fl, (xm_up (xm_up (xm_up (xm_up (xm_up (xm_up (xm_up (xm_up (xm_up (xm_up (xm_up (xm_up (xm_up (xm_up (xm_up (xm_up (xm_up (xm_up (xm_up (xm_up (xm_up (xm_up r (7, 3, 0) 4 (some (8, 3, 0))) (9, 3, 0) 0 (some (10, 3, 0))) (7, 3, 0) 5 (some (9, 3, 0))) (7, 3, 0) 6 (some (11, 3, 0))) (9, 3, 6) 0 (some (10, 3, 6))) (11, 3, 0) 0 (some (9, 3, 6))) (9, 3, 7) 0 (some (10, 3, 7))) (11, 3, 0) 1 (some (9, 3, 7))) (9, 3, 8) 0 (some (10, 3, 8))) (11, 3, 0) 2 (some (9, 3, 8))) (9, 3, 9) 0 (some (10, 3, 9))) (11, 3, 0) 3 (some (9, 3, 9))) (9, 3, 10) 0 (some (10, 3, 10))) (11, 3, 0) 4 (some (9, 3, 10))) (7, 3, 0) 7 (some (12, 3, 0))) (9, 3, 2) 0 (some (10, 3, 2))) (12, 3, 0) 0 (some (9, 3, 2))) (9, 3, 3) 0 (some (10, 3, 3))) (12, 3, 0) 1 (some (9, 3, 3))) (9, 3, 4) 0 (some (10, 3, 4))) (12, 3, 0) 2 (some (9, 3, 4))) (9, 3, 5) 0 (some (10, 3, 5)))) R
  refine pg_43_106 (en_ok (t := 4) (s := 0) (by decide +kernel)) (by decide) (by decide) (en_ok (s := 4) (by decide +kernel)) (i := 3) (rfl : (3 : Int32) = nI 3) (by decide) (by decide) ?_
  refine pg_43_107 (y := (4 : Int32)) (lv' := [some (xm_r (7, 3, 0)), some (xm_i (3 : Int32)), some (xm_i (5 : Int32)), some (xm_i (4 : Int32))]) rfl (by decide) rfl ?_
  refine pg_43_110 ?_
  refine pg_43_88 rfl ?_
  refine pg_43_89 ?_
  refine pg_43_90 (fun _ => ?_) (fun hc => absurd (by decide) hc)
  refine pg_43_113 rfl ?_
  refine pg_43_114 (a := (9, 3, 1)) (en_a (by decide +kernel)) (en_k (by decide +kernel)) ?_
  show xm_G (en 5 L) (d + 1) true 43 117 [some (xm_r (7, 3, 0)), some (xm_i (3 : Int32)), some (xm_i (5 : Int32)), some (xm_i (4 : Int32))] [xm_r (9, 3, 1), xm_r (7, 3, 0)] ((113, 466), (xm_up (xm_up (xm_up fi (7, 3, 0) 0 (3 : Int32)) (7, 3, 0) 1 (5 : Int32)) (8, 3, 0) 2 (sp_1 (5 : Int32))), fl, (xm_up (xm_up (xm_up (xm_up (xm_up (xm_up (xm_up (xm_up (xm_up (xm_up (xm_up (xm_up (xm_up (xm_up (xm_up (xm_up (xm_up (xm_up (xm_up (xm_up (xm_up (xm_up (xm_up r (7, 3, 0) 4 (some (8, 3, 0))) (9, 3, 0) 0 (some (10, 3, 0))) (7, 3, 0) 5 (some (9, 3, 0))) (7, 3, 0) 6 (some (11, 3, 0))) (9, 3, 6) 0 (some (10, 3, 6))) (11, 3, 0) 0 (some (9, 3, 6))) (9, 3, 7) 0 (some (10, 3, 7))) (11, 3, 0) 1 (some (9, 3, 7))) (9, 3, 8) 0 (some (10, 3, 8))) (11, 3, 0) 2 (some (9, 3, 8))) (9, 3, 9) 0 (some (10, 3, 9))) (11, 3, 0) 3 (some (9, 3, 9))) (9, 3, 10) 0 (some (10, 3, 10))) (11, 3, 0) 4 (some (9, 3, 10))) (7, 3, 0) 7 (some (12, 3, 0))) (9, 3, 2) 0 (some (10, 3, 2))) (12, 3, 0) 0 (some (9, 3, 2))) (9, 3, 3) 0 (some (10, 3, 3))) (12, 3, 0) 1 (some (9, 3, 3))) (9, 3, 4) 0 (some (10, 3, 4))) (12, 3, 0) 2 (some (9, 3, 4))) (9, 3, 5) 0 (some (10, 3, 5))) (12, 3, 0) 3 (some (9, 3, 5)))) R
  refine pg_43_117 rfl ?_
  refine pg_43_118 rfl ?_
  refine pg_43_119 (Nat.le_of_ble_eq_true rfl) (ct_61 (m := 5) (b := (10, 3, 1)) (rfl : (5 : Int32) = nI 5) (by decide) (en_a (by decide +kernel)) (en_k (by decide +kernel)) (en_ok (by decide +kernel))) ?_
  show xm_G (en 5 L) (d + 1) true 43 122 [some (xm_r (7, 3, 0)), some (xm_i (3 : Int32)), some (xm_i (5 : Int32)), some (xm_i (4 : Int32))] [xm_r (9, 3, 1), xm_r (7, 3, 0)] ((114, 471), (xm_up (xm_up (xm_up fi (7, 3, 0) 0 (3 : Int32)) (7, 3, 0) 1 (5 : Int32)) (8, 3, 0) 2 (sp_1 (5 : Int32))), fl, (xm_up (xm_up (xm_up (xm_up (xm_up (xm_up (xm_up (xm_up (xm_up (xm_up (xm_up (xm_up (xm_up (xm_up (xm_up (xm_up (xm_up (xm_up (xm_up (xm_up (xm_up (xm_up (xm_up (xm_up r (7, 3, 0) 4 (some (8, 3, 0))) (9, 3, 0) 0 (some (10, 3, 0))) (7, 3, 0) 5 (some (9, 3, 0))) (7, 3, 0) 6 (some (11, 3, 0))) (9, 3, 6) 0 (some (10, 3, 6))) (11, 3, 0) 0 (some (9, 3, 6))) (9, 3, 7) 0 (some (10, 3, 7))) (11, 3, 0) 1 (some (9, 3, 7))) (9, 3, 8) 0 (some (10, 3, 8))) (11, 3, 0) 2 (some (9, 3, 8))) (9, 3, 9) 0 (some (10, 3, 9))) (11, 3, 0) 3 (some (9, 3, 9))) (9, 3, 10) 0 (some (10, 3, 10))) (11, 3, 0) 4 (some (9, 3, 10))) (7, 3, 0) 7 (some (12, 3, 0))) (9, 3, 2) 0 (some (10, 3, 2))) (12, 3, 0) 0 (some (9, 3, 2))) (9, 3, 3) 0 (some (10, 3, 3))) (12, 3, 0) 1 (some (9, 3, 3))) (9, 3, 4) 0 (some (10, 3, 4))) (12, 3, 0) 2 (some (9, 3, 4))) (9, 3, 5) 0 (some (10, 3, 5))) (12, 3, 0) 3 (some (9, 3, 5))) (9, 3, 1) 0 (some (10, 3, 1)))) R
  refine pg_43_122 (en_ok (by decide +kernel)) ?_
  refine pg_43_125 rfl ?_
  refine pg_43_126 rfl ?_
  refine pg_43_127 (n := 5) (rfl : (5 : Int32) = nI 5) (by decide) (en_a (a := (13, 3, 0)) (by decide +kernel)) (en_k (by decide +kernel)) ?_
  show xm_G (en 5 L) (d + 1) true 43 129 [some (xm_r (7, 3, 0)), some (xm_i (3 : Int32)), some (xm_i (5 : Int32)), some (xm_i (4 : Int32))] [xm_r (13, 3, 0), xm_r (7, 3, 0)] ((115, 476), (xm_up (xm_up (xm_up fi (7, 3, 0) 0 (3 : Int32)) (7, 3, 0) 1 (5 : Int32)) (8, 3, 0) 2 (sp_1 (5 : Int32))), fl, (xm_up (xm_up (xm_up (xm_up (xm_up (xm_up (xm_up (xm_up (xm_up (xm_up (xm_up (xm_up (xm_up (xm_up (xm_up (xm_up (xm_up (xm_up (xm_up (xm_up (xm_up (xm_up (xm_up (xm_up (xm_up r (7, 3, 0) 4 (some (8, 3, 0))) (9, 3, 0) 0 (some (10, 3, 0))) (7, 3, 0) 5 (some (9, 3, 0))) (7, 3, 0) 6 (some (11, 3, 0))) (9, 3, 6) 0 (some (10, 3, 6))) (11, 3, 0) 0 (some (9, 3, 6))) (9, 3, 7) 0 (some (10, 3, 7))) (11, 3, 0) 1 (some (9, 3, 7))) (9, 3, 8) 0 (some (10, 3, 8))) (11, 3, 0) 2 (some (9, 3, 8))) (9, 3, 9) 0 (some (10, 3, 9))) (11, 3, 0) 3 (some (9, 3, 9))) (9, 3, 10) 0 (some (10, 3, 10))) (11, 3, 0) 4 (some (9, 3, 10))) (7, 3, 0) 7 (some (12, 3, 0))) (9, 3, 2) 0 (some (10, 3, 2))) (12, 3, 0) 0 (some (9, 3, 2))) (9, 3, 3) 0 (some (10, 3, 3))) (12, 3, 0) 1 (some (9, 3, 3))) (9, 3, 4) 0 (some (10, 3, 4))) (12, 3, 0) 2 (some (9, 3, 4))) (9, 3, 5) 0 (some (10, 3, 5))) (12, 3, 0) 3 (some (9, 3, 5))) (9, 3, 1) 0 (some (10, 3, 1))) (7, 3, 0) 8 (some (9, 3, 1)))) R
  refine pg_43_129 (en_ok (by decide +kernel)) ?_
  exact go_eq hR.symm (pg_43_132)
def cf_43_5_4 (fi : FI) : FI := (xm_up (xm_up (xm_up fi (7, 4, 0) 0 (4 : Int32)) (7, 4, 0) 1 (5 : Int32)) (8, 4, 0) 2 (sp_1 (5 : Int32)))
def cr_43_5_4 (r : xm_I → Nat → Option xm_I) : xm_I → Nat → Option xm_I := (xm_up (xm_up (xm_up (xm_up (xm_up (xm_up (xm_up (xm_up (xm_up (xm_up (xm_up (xm_up (xm_up (xm_up (xm_up (xm_up (xm_up (xm_up (xm_up (xm_up (xm_up (xm_up (xm_up (xm_up (xm_up (xm_up r (7, 4, 0) 4 (some (8, 4, 0))) (9, 4, 0) 0 (some (10, 4, 0))) (7, 4, 0) 5 (some (9, 4, 0))) (7, 4, 0) 6 (some (11, 4, 0))) (9, 4, 6) 0 (some (10, 4, 6))) (11, 4, 0) 0 (some (9, 4, 6))) (9, 4, 7) 0 (some (10, 4, 7))) (11, 4, 0) 1 (some (9, 4, 7))) (9, 4, 8) 0 (some (10, 4, 8))) (11, 4, 0) 2 (some (9, 4, 8))) (9, 4, 9) 0 (some (10, 4, 9))) (11, 4, 0) 3 (some (9, 4, 9))) (9, 4, 10) 0 (some (10, 4, 10))) (11, 4, 0) 4 (some (9, 4, 10))) (7, 4, 0) 7 (some (12, 4, 0))) (9, 4, 2) 0 (some (10, 4, 2))) (12, 4, 0) 0 (some (9, 4, 2))) (9, 4, 3) 0 (some (10, 4, 3))) (12, 4, 0) 1 (some (9, 4, 3))) (9, 4, 4) 0 (some (10, 4, 4))) (12, 4, 0) 2 (some (9, 4, 4))) (9, 4, 5) 0 (some (10, 4, 5))) (12, 4, 0) 3 (some (9, 4, 5))) (9, 4, 1) 0 (some (10, 4, 1))) (7, 4, 0) 8 (some (9, 4, 1))) (7, 4, 0) 9 (some (13, 4, 0)))
set_option maxRecDepth 8000 in
theorem ct_43_5_4 {L : Nat} {fi : FI} {fl : FL} {r : xm_I → Nat → Option xm_I} {d : Nat} : xm_C (en 5 L) (d + 2) true 43 [xm_r (7, 4, 0), xm_i (4 : Int32), xm_i (5 : Int32)] ((116, 489), fi, fl, r) (.inl none, ((142, 584), cf_43_5_4 fi, fl, cr_43_5_4 r)) := by
  suffices key : ∀ (E : xm_E) (R : xm_O), E = en 5 L → ((.inl none, ((142, 584), cf_43_5_4 fi, fl, cr_43_5_4 r)) : xm_O) = R → xm_G (en 5 L) (d + 1) true 43 0 [some (xm_r (7, 4, 0)), some (xm_i (4 : Int32)), some (xm_i (5 : Int32)), none] [] ((116, 489), fi, fl, r) R from go_inr (by decide) (Nat.le_of_ble_eq_true rfl) (key _ _ rfl rfl)
  intro E R hE hR
  refine pg_43_0 rfl ?_
  refine pg_43_1 (Nat.le_of_ble_eq_true rfl) ?_
  refine pg_43_4 rfl ?_
  refine pg_43_5 rfl ?_
  refine pg_43_6 (en_ok (by decide +kernel)) ?_
  refine pg_43_9 rfl ?_
  refine pg_43_10 rfl ?_
  refine pg_43_11 (en_ok (by decide +kernel)) ?_
  refine pg_43_14 rfl ?_
  refine pg_43_15 ?_
  refine pg_43_16 (n := 4) (rfl : (4 : Int32) = nI 4) (by decide) (en_a (a := (8, 4, 0)) (by decide +kernel)) (en_k (by decide +kernel)) ?_
  show xm_G (en 5 L) (d + 1) true 43 18 [some (xm_r (7, 4, 0)), some (xm_i (4 : Int32)), some (xm_i (5 : Int32)), none] [xm_r (8, 4, 0), xm_r (7, 4, 0)] ((117, 493), (xm_up (xm_up fi (7, 4, 0) 0 (4 : Int32)) (7, 4, 0) 1 (5 : Int32)), fl, r) R
  refine pg_43_18 (en_ok (by decide +kernel)) ?_
  refine pg_43_21 rfl ?_
  refine pg_43_22 (en_ok (by decide +kernel)) rfl ?_
  refine pg_43_25 ?_
  refine pg_43_26 rfl ?_
  refine pg_43_27 (Nat.le_of_ble_eq_true rfl) (ct_1 (x := (5 : Int32))) ?_
  refine pg_43_30 (en_ok (s := 4) (by decide +kernel)) (i := 2) (rfl : (2 : Int32) = nI 2) (by omega) (by omega) ?_
  refine pg_43_31 rfl ?_
  refine pg_43_32 (a := (9, 4, 0)) (en_a (by decide +kernel)) (en_k (by decide +kernel)) ?_
  show xm_G (en 5 L) (d + 1) true 43 35 [some (xm_r (7, 4, 0)), some (xm_i (4 : Int32)), some (xm_i (5 : Int32)), none] [xm_r (9, 4, 0), xm_r (7, 4, 0)] ((118, 495), (xm_up (xm_up (xm_up fi (7, 4, 0) 0 (4 : Int32)) (7, 4, 0) 1 (5 : Int32)) (8, 4, 0) 2 (sp_1 (5 : Int32))), fl, (xm_up r (7, 4, 0) 4 (some (8, 4, 0)))) R
  refine pg_43_35 rfl ?_
  refine pg_43_36 rfl ?_
  refine pg_43_37 (Nat.le_of_ble_eq_true rfl) (ct_61 (m := 5) (b := (10, 4, 0)) (rfl : (5 : Int32) = nI 5) (by decide) (en_a (by decide +kernel)) (en_k (by decide +kernel)) (en_ok (by decide +kernel))) ?_
  show xm_G (en 5 L) (d + 1) true 43 40 [some (xm_r (7, 4, 0)), some (xm_i (4 : Int32)), some (xm_i (5 : Int32)), none] [xm_r (9, 4, 0), xm_r (7, 4, 0)] ((119, 500), (xm_up (xm_up (xm_up fi (7, 4, 0) 0 (4 : Int32)) (7, 4, 0) 1 (5 : Int32)) (8, 4, 0) 2 (sp_1 (5 : Int32))), fl, (xm_up (xm_up r (7, 4, 0) 4 (some (8, 4, 0))) (9, 4, 0) 0 (some (10, 4, 0)))) R
  refine pg_43_40 (en_ok (by decide +kernel)) ?_
  refine pg_43_43 rfl ?_
  refine pg_43_44 rfl ?_
  refine pg_43_45 (n := 5) (rfl : (5 : Int32) = nI 5) (by decide) (en_a (a := (11, 4, 0)) (by decide +kernel)) (en_k (by decide +kernel)) ?_
  show xm_G (en 5 L) (d + 1) true 43 48 [some (xm_r (7, 4, 0)), some (xm_i (4 : Int32)), some (xm_i (5 : Int32)), none] [xm_r (11, 4, 0), xm_r (7, 4, 0)] ((120, 505), (xm_up (xm_up (xm_up fi (7, 4, 0) 0 (4 : Int32)) (7, 4, 0) 1 (5 : Int32)) (8, 4, 0) 2 (sp_1 (5 : Int32))), fl, (xm_up (xm_up (xm_up r (7, 4, 0) 4 (some (8, 4, 0))) (9, 4, 0) 0 (some (10, 4, 0))) (7, 4, 0) 5 (some (9, 4, 0)))) R
  refine pg_43_48 (en_ok (by decide +kernel)) ?_
  refine pg_43_51 ?_
  refine pg_43_52 (lv' := [some (xm_r (7, 4, 0)), some (xm_i (4 : Int32)), some (xm_i (5 : Int32)), some (xm_i (0 : Int32))]) rfl ?_
  refine pg_43_53 rfl ?_
  refine pg_43_54 rfl ?_
  refine pg_43_55 (fun hc => absurd hc (by decide)) (fun _ => ?_)
  refine pg_43_58 rfl ?_
  refine pg_43_59 (en_ok (by decide +kernel)) rfl ?_
  refine pg_43_62 rfl ?_
  refine pg_43_63 (a := (9, 4, 6)) (en_a (by decide +kernel)) (en_k (by decide +kernel)) ?_
  show xm_G (en 5 L) (d + 1) true 43 66 [some (xm_r (7, 4, 0)), some (xm_i (4 : Int32)), some (xm_i (5 : Int32)), some (xm_i (0 : Int32))] [xm_r (9, 4, 6), xm_i (0 : Int32), xm_r (11, 4, 0)] ((121, 507), (xm_up (xm_up (xm_up fi (7, 4, 0) 0 (4 : Int32)) (7, 4, 0) 1 (5 : Int32)) (8, 4, 0) 2 (sp_1 (5 : Int32))), fl, (xm_up (xm_up (xm_up (xm_up r (7, 4, 0) 4 (some (8, 4, 0))) (9, 4, 0) 0 (some (10, 4, 0))) (7, 4, 0) 5 (some (9, 4, 0))) (7, 4, 0) 6 (some (11, 4, 0)))) R
  refine pg_43_66 rfl ?_
  refine pg_43_67 rfl ?_
  refine pg_43_68 (Nat.le_of_ble_eq_true rfl) (ct_61 (m := 5) (b := (10, 4, 6)) (rfl : (5 : Int32) = nI 5) (by decide) (en_a (by decide +kernel)) (en_k (by decide +kernel)) (en_ok (by decide +kernel))) ?_
  show xm_G (en 5 L) (d + 1) true 43 71 [some (xm_r (7, 4, 0)), some (xm_i (4 : Int32)), some (xm_i (5 : Int32)), some (xm_i (0 : Int32))] [xm_r (9, 4, 6), xm_i (0 : Int32), xm_r (11, 4, 0)] ((122, 512), (xm_up (xm_up (xm_up fi (7, 4, 0) 0 (4 : Int32)) (7, 4, 0) 1 (5 : Int32)) (8, 4, 0) 2 (sp_1 (5 : Int32))), fl, (xm_up (xm_up (xm_up (xm_up (xm_up r (7, 4, 0) 4 (some (8, 4, 0))) (9, 4, 0) 0 (some (10, 4, 0))) (7, 4, 0) 5 (some (9, 4, 0))) (7, 4, 0) 6 (some (11, 4, 0))) (9, 4, 6) 0 (some (10, 4, 6)))) R
  refine pg_43_71 (en_ok (t := 4) (s := 0) (by decide +kernel)) (by decide) (by decide) (en_ok (s := 5) (by decide +kernel)) (i := 0) (rfl : (0 : Int32) = nI 0) (by decide) (by decide) ?_
  refine pg_43_72 (y := (1 : Int32)) (lv' := [some (xm_r (7, 4, 0)), some (xm_i (4 : Int32)), some (xm_i (5 : Int32)), some (xm_i (1 : Int32))]) rfl (by decide) rfl ?_
  refine pg_43_75 ?_
  refine pg_43_53 rfl ?_
  refine pg_43_54 rfl ?_
  refine pg_43_55 (fun hc => absurd hc (by decide)) (fun _ => ?_)
  refine pg_43_58 rfl ?_
  refine pg_43_59 (en_ok (by decide +kernel)) rfl ?_
  refine pg_43_62 rfl ?_
  refine pg_43_63 (a := (9, 4, 7)) (en_a (by decide +kernel)) (en_k (by decide +kernel)) ?_
  show xm_G (en 5 L) (d + 1) true 43 66 [some (xm_r (7, 4, 0)), some (xm_i (4 : Int32)), some (xm_i (5 : Int32)), some (xm_i (1 : Int32))] [xm_r (9, 4, 7), xm_i (1 : Int32), xm_r (11, 4, 0)] ((123, 514), (xm_up (xm_up (xm_up fi (7, 4, 0) 0 (4 : Int32)) (7, 4, 0) 1 (5 : Int32)) (8, 4, 0) 2 (sp_1 (5 : Int32))), fl, (xm_up (xm_up (xm_up (xm_up (xm_up (xm_up r (7, 4, 0) 4 (some (8, 4, 0))) (9, 4, 0) 0 (some (10, 4, 0))) (7, 4, 0) 5 (some (9, 4, 0))) (7, 4, 0) 6 (some (11, 4, 0))) (9, 4, 6) 0 (some (10, 4, 6))) (11, 4, 0) 0 (some (9, 4, 6)))) R
  refine pg_43_66 rfl ?_
  refine pg_43_67 rfl ?_
  refine pg_43_68 (Nat.le_of_ble_eq_true rfl) (ct_61 (m := 5) (b := (10, 4, 7)) (rfl : (5 : Int32) = nI 5) (by decide) (en_a (by decide +kernel)) (en_k (by decide +kernel)) (en_ok (by decide +kernel))) ?_
  show xm_G (en 5 L) (d + 1) true 43 71 [some (xm_r (7, 4, 0)), some (xm_i (4 : Int32)), some (xm_i (5 : Int32)), some (xm_i (1 : Int32))] [xm_r (9, 4, 7), xm_i (1 : Int32), xm_r (11, 4, 0)] ((124, 519), (xm_up (xm_up (xm_up fi (7, 4, 0) 0 (4 : Int32)) (7, 4, 0) 1 (5 : Int32)) (8, 4, 0) 2 (sp_1 (5 : Int32))), fl, (xm_up (xm_up (xm_up (xm_up (xm_up (xm_up (xm_up r (7, 4, 0) 4 (some (8, 4, 0))) (9, 4, 0) 0 (some (10, 4, 0))) (7, 4, 0) 5 (some (9, 4, 0))) (7, 4, 0) 6 (some (11, 4, 0))) (9, 4, 6) 0 (some (10, 4, 6))) (11, 4, 0) 0 (some (9, 4, 6))) (9, 4, 7) 0 (some (10, 4, 7)))) R
  refine pg_43_71 (en_ok (t := 4) (s := 0) (by decide +kernel)) (by decide) (by decide) (en_ok (s := 5) (by decide +kernel)) (i := 1) (rfl : (1 : Int32) = nI 1) (by decide) (by decide) ?_
  refine pg_43_72 (y := (2 : Int32)) (lv' := [some (xm_r (7, 4, 0)), some (xm_i (4 : Int32)), some (xm_i (5 : Int32)), some (xm_i (2 : Int32))]) rfl (by decide) rfl ?_
  refine pg_43_75 ?_
  refine pg_43_53 rfl ?_
  refine pg_43_54 rfl ?_
  refine pg_43_55 (fun hc => absurd hc (by decide)) (fun _ => ?_)
  refine pg_43_58 rfl ?_
  refine pg_43_59 (en_ok (by decide +kernel)) rfl ?_
  refine pg_43_62 rfl ?_
  refine pg_43_63 (a := (9, 4, 8)) (en_a (by decide +kernel)) (en_k (by decide +kernel)) ?_
  show xm_G (en 5 L) (d + 1) true 43 66 [some (xm_r (7, 4, 0)), some (xm_i (4 : Int32)), some (xm_i (5 : Int32)), some (xm_i (2 : Int32))] [xm_r (9, 4, 8), xm_i (2 : Int32), xm_r (11, 4, 0)] ((125, 521), (xm_up (xm_up (xm_up fi (7, 4, 0) 0 (4 : Int32)) (7, 4, 0) 1 (5 : Int32)) (8, 4, 0) 2 (sp_1 (5 : Int32))), fl, (xm_up (xm_up (xm_up (xm_up (xm_up (xm_up (xm_up (xm_up r (7, 4, 0) 4 (some (8, 4, 0))) (9, 4, 0) 0 (some (10, 4, 0))) (7, 4, 0) 5 (some (9, 4, 0))) (7, 4, 0) 6 (some (11, 4, 0))) (9, 4, 6) 0 (some (10, 4, 6))) (11, 4, 0) 0 (some (9, 4, 6))) (9, 4, 7) 0 (some (10, 4, 7))) (11, 4, 0) 1 (some (9, 4, 7)))) R
  refine pg_43_66 rfl ?_
  refine pg_43_67 rfl ?_
  refine pg_43_68 (Nat.le_of_ble_eq_true rfl) (ct_61 (m := 5) (b := (10, 4, 8)) (rfl : (5 : Int32) = nI 5) (by decide) (en_a (by decide +kernel)) (en_k (by decide +kernel)) (en_ok (by decide +kernel))) ?_
  show xm_G (en 5 L) (d + 1) true 43 71 [some (xm_r (7, 4, 0)), some (xm_i (4 : Int32)), some (xm_i (5 : Int32)), some (xm_i (2 : Int32))] [xm_r (9, 4, 8), xm_i (2 : Int32), xm_r (11, 4, 0)] ((126, 526), (xm_up (xm_up (xm_up fi (7, 4, 0) 0 (4 : Int32)) (7, 4, 0) 1 (5 : Int32)) (8, 4, 0) 2 (sp_1 (5 : Int32))), fl, (xm_up (xm_up (xm_up (xm_up (xm_up (xm_up (xm_up (xm_up (xm_up r (7, 4, 0) 4 (some (8, 4, 0))) (9, 4, 0) 0 (some (10, 4, 0))) (7, 4, 0) 5 (some (9, 4, 0))) (7, 4, 0) 6 (some (11, 4, 0))) (9, 4, 6) 0 (some (10, 4, 6))) (11, 4, 0) 0 (some (9, 4, 6))) (9, 4, 7) 0 (some (10, 4, 7))) (11, 4, 0) 1 (some (9, 4, 7))) (9, 4, 8) 0 (some (10, 4, 8)))) R
  refine pg_43_71 (en_ok (t := 4) (s := 0) (by decide +kernel)) (by decide) (by decide) (en_ok (s := 5) (by decide +kernel)) (i := 2) (rfl : (2 : Int32) = nI 2) (by decide) (by decide) ?_
  refine pg_43_72 (y := (3 : Int32)) (lv' := [some (xm_r (7, 4, 0)), some (xm_i (4 : Int32)), some (xm_i (5 : Int32)), some (xm_i (3 : Int32))]) rfl (by decide) rfl ?_
  refine pg_43_75 ?_
  refine pg_43_53 rfl ?_
  refine pg_43_54 rfl ?_
  refine pg_43_55 (fun hc => absurd hc (by decide)) (fun _ => ?_)
  refine pg_43_58 rfl ?_
  refine pg_43_59 (en_ok (by decide +kernel)) rfl ?_
  refine pg_43_62 rfl ?_
  refine pg_43_63 (a := (9, 4, 9)) (en_a (by decide +kernel)) (en_k (by decide +kernel)) ?_
  show xm_G (en 5 L) (d + 1) true 43 66 [some (xm_r (7, 4, 0)), some (xm_i (4 : Int32)), some (xm_i (5 : Int32)), some (xm_i (3 : Int32))] [xm_r (9, 4, 9), xm_i (3 : Int32), xm_r (11, 4, 0)] ((127, 528), (xm_up (xm_up (xm_up fi (7, 4, 0) 0 (4 : Int32)) (7, 4, 0) 1 (5 : Int32)) (8, 4, 0) 2 (sp_1 (5 : Int32))), fl, (xm_up (xm_up (xm_up (xm_up (xm_up (xm_up (xm_up (xm_up (xm_up (xm_up r (7, 4, 0) 4 (some (8, 4, 0))) (9, 4, 0) 0 (some (10, 4, 0))) (7, 4, 0) 5 (some (9, 4, 0))) (7, 4, 0) 6 (some (11, 4, 0))) (9, 4, 6) 0 (some (10, 4, 6))) (11, 4, 0) 0 (some (9, 4, 6))) (9, 4, 7) 0 (some (10, 4, 7))) (11, 4, 0) 1 (some (9, 4, 7))) (9, 4, 8) 0 (some (10, 4, 8))) (11, 4, 0) 2 (some (9, 4, 8)))) R
  refine pg_43_66 rfl ?_
  refine pg_43_67 rfl ?_
  refine pg_43_68 (Nat.le_of_ble_eq_true rfl) (ct_61 (m := 5) (b := (10, 4, 9)) (rfl : (5 : Int32) = nI 5) (by decide) (en_a (by decide +kernel)) (en_k (by decide +kernel)) (en_ok (by decide +kernel))) ?_
  show xm_G (en 5 L) (d + 1) true 43 71 [some (xm_r (7, 4, 0)), some (xm_i (4 : Int32)), some (xm_i (5 : Int32)), some (xm_i (3 : Int32))] [xm_r (9, 4, 9), xm_i (3 : Int32), xm_r (11, 4, 0)] ((128, 533), (xm_up (xm_up (xm_up fi (7, 4, 0) 0 (4 : Int32)) (7, 4, 0) 1 (5 : Int32)) (8, 4, 0) 2 (sp_1 (5 : Int32))), fl, (xm_up (xm_up (xm_up (xm_up (xm_up (xm_up (xm_up (xm_up (xm_up (xm_up (xm_up r (7, 4, 0) 4 (some (8, 4, 0))) (9, 4, 0) 0 (some (10, 4, 0))) (7, 4, 0) 5 (some (9, 4, 0))) (7, 4, 0) 6 (some (11, 4, 0))) (9, 4, 6) 0 (some (10, 4, 6))) (11, 4, 0) 0 (some (9, 4, 6))) (9, 4, 7) 0 (some (10, 4, 7))) (11, 4, 0) 1 (some (9, 4, 7))) (9, 4, 8) 0 (some (10, 4, 8))) (11, 4, 0) 2 (some (9, 4, 8))) (9, 4, 9) 0 (some (10, 4, 9)))) R
  refine pg_43_71 (en_ok (t := 4) (s := 0) (by decide +kernel)) (by decide) (by decide) (en_ok (s := 5) (by decide +kernel)) (i := 3) (rfl : (3 : Int32) = nI 3) (by decide) (by decide) ?_
  refine pg_43_72 (y := (4 : Int32)) (lv' := [some (xm_r (7, 4, 0)), some (xm_i (4 : Int32)), some (xm_i (5 : Int32)), some (xm_i (4 : Int32))]) rfl (by decide) rfl ?_
  refine pg_43_75 ?_
  refine pg_43_53 rfl ?_
  refine pg_43_54 rfl ?_
  refine pg_43_55 (fun hc => absurd hc (by decide)) (fun _ => ?_)
  refine pg_43_58 rfl ?_
  refine pg_43_59 (en_ok (by decide +kernel)) rfl ?_
  refine pg_43_62 rfl ?_
  refine pg_43_63 (a := (9, 4, 10)) (en_a (by decide +kernel)) (en_k (by decide +kernel)) ?_
  show xm_G (en 5 L) (d + 1) true 43 66 [some (xm_r (7, 4, 0)), some (xm_i (4 : Int32)), some (xm_i (5 : Int32)), some (xm_i (4 : Int32))] [xm_r (9, 4, 10), xm_i (4 : Int32), xm_r (11, 4, 0)] ((129, 535), (xm_up (xm_up (xm_up fi (7, 4, 0) 0 (4 : Int32)) (7, 4, 0) 1 (5 : Int32)) (8, 4, 0) 2 (sp_1 (5 : Int32))), fl, (xm_up (xm_up (xm_up (xm_up (xm_up (xm_up (xm_up (xm_up (xm_up (xm_up (xm_up (xm_up r (7, 4, 0) 4 (some (8, 4, 0))) (9, 4, 0) 0 (some (10, 4, 0))) (7, 4, 0) 5 (some (9, 4, 0))) (7, 4, 0) 6 (some (11, 4, 0))) (9, 4, 6) 0 (some (10, 4, 6))) (11, 4, 0) 0 (some (9, 4, 6))) (9, 4, 7) 0 (some (10, 4, 7))) (11, 4, 0) 1 (some (9, 4, 7))) (9, 4, 8) 0 (some (10, 4, 8))) (11, 4, 0) 2 (some (9, 4, 8))) (9, 4, 9) 0 (some (10, 4, 9))) (11, 4, 0) 3 (some (9, 4, 9)))) R
  refine pg_43_66 rfl ?_
  refine pg_43_67 rfl ?_
  refine pg_43_68 (Nat.le_of_ble_eq_true rfl) (ct_61 (m := 5) (b := (10, 4, 10)) (rfl : (5 : Int32) = nI 5) (by decide) (en_a (by decide +kernel)) (en_k (by decide +kernel)) (en_ok (by decide +kernel))) ?_
  show xm_G (en 5 L) (d + 1) true 43 71 [some (xm_r (7, 4, 0)), some (xm_i (4 : Int32)), some (xm_i (5 : Int32)), some (xm_i (4 : Int32))] [xm_r (9, 4, 10), xm_i (4 : Int32), xm_r (11, 4, 0)] ((130, 540), (xm_up (xm_up (xm_up fi (7, 4, 0) 0 (4 : Int32)) (7, 4, 0) 1 (5 : Int32)) (8, 4, 0) 2 (sp_1 (5 : Int32))), fl, (xm_up (xm_up (xm_up (xm_up (xm_up (xm_up (xm_up (xm_up (xm_up (xm_up (xm_up (xm_up (xm_up r (7, 4, 0) 4 (some (8, 4, 0))) (9, 4, 0) 0 (some (10, 4, 0))) (7, 4, 0) 5 (some (9, 4, 0))) (7, 4, 0) 6 (some (11, 4, 0))) (9, 4, 6) 0 (some (10, 4, 6))) (11, 4, 0) 0 (some (9, 4, 6))) (9, 4, 7) 0 (some (10, 4, 7))) (11, 4, 0) 1 (some (9, 4, 7))) (9, 4, 8) 0 (some (10, 4, 8))) (11, 4, 0) 2 (some (9, 4, 8))) (9, 4, 9) 0 (some (10, 4, 9))) (11, 4, 0) 3 (some (9, 4, 9))) (9, 4, 10) 0 (some (10, 4, 10)))) R
  refine pg_43_71 (en_ok (t := 4) (s := 0) (by decide +kernel)) (by decide) (by decide) (en_ok (s := 5) (by decide +kernel)) (i := 4) (rfl : (4 : Int32) = nI 4) (by decide) (by decide) ?_
  refine pg_43_72 (y := (5 : Int32)) (lv' := [some (xm_r (7, 4, 0)), some (xm_i (4 : Int32)), some (xm_i (5 : Int32)), some (xm_i (5 : Int32))]) rfl (by decide) rfl ?_
  refine pg_43_75 ?_
  refine pg_43_53 rfl ?_
  refine pg_43_54 rfl ?_
  refine pg_43_55 (fun _ => ?_) (fun hc => absurd (by decide) hc)
  refine pg_43_78 rfl ?_
  refine pg_43_79 ?_
  refine pg_43_80 (n := 4) (rfl : (4 : Int32) = nI 4) (by decide) (en_a (a := (12, 4, 0)) (by decide +kernel)) (en_k (by decide +kernel)) ?_
  show xm_G (en 5 L) (d + 1) true 43 83 [some (xm_r (7, 4, 0)), some (xm_i (4 : Int32)), some (xm_i (5 : Int32)), some (xm_i (5 : Int32))] [xm_r (12, 4, 0), xm_r (7, 4, 0)] ((131, 544), (xm_up (xm_up (xm_up fi (7, 4, 0) 0 (4 : Int32)) (7, 4, 0) 1 (5 : Int32)) (8, 4, 0) 2 (sp_1 (5 : Int32))), fl, (xm_up (xm_up (xm_up (xm_up (xm_up (xm_up (xm_up (xm_up (xm_up (xm_up (xm_up (xm_up (xm_up (xm_up r (7, 4, 0) 4 (some (8, 4, 0))) (9, 4, 0) 0 (some (10, 4, 0))) (7, 4, 0) 5 (some (9, 4, 0))) (7, 4, 0) 6 (some (11, 4, 0))) (9, 4, 6) 0 (some (10, 4, 6))) (11, 4, 0) 0 (some (9, 4, 6))) (9, 4, 7) 0 (some (10, 4, 7))) (11, 4, 0) 1 (some (9, 4, 7))) (9, 4, 8) 0 (some (10, 4, 8))) (11, 4, 0) 2 (some (9, 4, 8))) (9, 4, 9) 0 (some (10, 4, 9))) (11, 4, 0) 3 (some (9, 4, 9))) (9, 4, 10) 0 (some (10, 4, 10))) (11, 4, 0) 4 (some (9, 4, 10)))) R
  refine pg_43_83 (en_ok (by decide +kernel)) ?_
  refine pg_43_86 ?_
  refine pg_43_87 (lv' := [some (xm_r (7, 4, 0)), some (xm_i (4 : Int32)), some (xm_i (5 : Int32)), some (xm_i (0 : Int32))]) rfl ?_
  refine pg_43_88 rfl ?_
  refine pg_43_89 ?_
  refine pg_43_90 (fun hc => absurd hc (by decide)) (fun _ => ?_)
  refine pg_43_93 rfl ?_
  refine pg_43_94 (en_ok (by decide +kernel)) rfl ?_
  refine pg_43_97 rfl ?_
  refine pg_43_98 (a := (9, 4, 2)) (en_a (by decide +kernel)) (en_k (by decide +kernel)) ?_
  show xm_G (en 5 L) (d + 1) true 43 101 [some (xm_r (7, 4, 0)), some (xm_i (4 : Int32)), some (xm_i (5 : Int32)), some (xm_i (0 : Int32))] [xm_r (9, 4, 2), xm_i (0 : Int32), xm_r (12, 4, 0)] ((132, 546), (xm_up (xm_up (xm_up fi (7, 4, 0) 0 (4 : Int32)) (7, 4, 0) 1 (5 : Int32)) (8, 4, 0) 2 (sp_1 (5 : Int32))), fl, (xm_up (xm_up (xm_up (xm_up (xm_up (xm_up (xm_up (xm_up (xm_up (xm_up (xm_up (xm_up (xm_up (xm_up (xm_up r (7, 4, 0) 4 (some (8, 4, 0))) (9, 4, 0) 0 (some (10, 4, 0))) (7, 4, 0) 5 (some (9, 4, 0))) (7, 4, 0) 6 (some (11, 4, 0))) (9, 4, 6) 0 (some (10, 4, 6))) (11, 4, 0) 0 (some (9, 4, 6))) (9, 4, 7) 0 (some (10, 4, 7))) (11, 4, 0) 1 (some (9, 4, 7))) (9, 4, 8) 0 (some (10, 4, 8))) (11, 4, 0) 2 (some (9, 4, 8))) (9, 4, 9) 0 (some (10, 4, 9))) (11, 4, 0) 3 (some (9, 4, 9))) (9, 4, 10) 0 (some (10, 4, 10))) (11, 4, 0) 4 (some (9, 4, 10))) (7, 4, 0) 7 (some (12, 4, 0)))) R
  refine pg_43_101 rfl ?_
  refine pg_43_102 rfl ?_
  refine pg_43_103 (Nat.le_of_ble_eq_true rfl) (ct_61 (m := 5) (b := (10, 4, 2)) (rfl : (5 : Int32) = nI 5) (by decide) (en_a (by decide +kernel)) (en_k (by decide +kernel)) (en_ok (by decide +kernel))) ?_
  show xm_G (en 5 L) (d + 1) true 43 106 [some (xm_r (7, 4, 0)), some (xm_i (4 : Int32)), some (xm_i (5 : Int32)), some (xm_i (0 : Int32))] [xm_r (9, 4, 2), xm_i (0 : Int32), xm_r (12, 4, 0)] ((133, 551), (xm_up (xm_up (xm_up fi (7, 4, 0) 0 (4 : Int32)) (7, 4, 0) 1 (5 : Int32)) (8, 4, 0) 2 (sp_1 (5 : Int32))), fl, (xm_up (xm_up (xm_up (xm_up (xm_up (xm_up (xm_up (xm_up (xm_up (xm_up (xm_up (xm_up (xm_up (xm_up (xm_up (xm_up r (7, 4, 0) 4 (some (8, 4, 0))) (9, 4, 0) 0 (some (10, 4, 0))) (7, 4, 0) 5 (some (9, 4, 0))) (7, 4, 0) 6 (some (11, 4, 0))) (9, 4, 6) 0 (some (10, 4, 6))) (11, 4, 0) 0 (some (9, 4, 6))) (9, 4, 7) 0 (some (10, 4, 7))) (11, 4, 0) 1 (some (9, 4, 7))) (9, 4, 8) 0 (some (10, 4, 8))) (11, 4, 0) 2 (some (9, 4, 8))) (9, 4, 9) 0 (some (10, 4, 9))) (11, 4, 0) 3 (some (9, 4, 9))) (9, 4, 10) 0 (some (10, 4, 10))) (11, 4, 0) 4 (some (9, 4, 10))) (7, 4, 0) 7 (some (12, 4, 0))) (9, 4, 2) 0 (some (10, 4, 2)))) R
  refine pg_43_106 (en_ok (t := 4) (s := 0) (by decide +kernel)) (by decide) (by decide) (en_ok (s := 4) (by decide +kernel)) (i := 0) (rfl : (0 : Int32) = nI 0) (by decide) (by decide) ?_
  refine pg_43_107 (y := (1 : Int32)) (lv' := [some (xm_r (7, 4, 0)), some (xm_i (4 : Int32)), some (xm_i (5 : Int32)), some (xm_i (1 : Int32))]) rfl (by decide) rfl ?_
  refine pg_43_110 ?_
  refine pg_43_88 rfl ?_
  refine pg_43_89 ?_
  refine pg_43_90 (fun hc => absurd hc (by decide)) (fun _ => ?_)
  refine pg_43_93 rfl ?_
  refine pg_43_94 (en_ok (by decide +kernel)) rfl ?_
  refine pg_43_97 rfl ?_
  refine pg_43_98 (a := (9, 4, 3)) (en_a (by decide +kernel)) (en_k (by decide +kernel)) ?_
  show xm_G (en 5 L) (d + 1) true 43 101 [some (xm_r (7, 4, 0)), some (xm_i (4 : Int32)), some (xm_i (5 : Int32)), some (xm_i (1 : Int32))] [xm_r (9, 4, 3), xm_i (1 : Int32), xm_r (12, 4, 0)] ((134, 553), (xm_up (xm_up (xm_up fi (7, 4, 0) 0 (4 : Int32)) (7, 4, 0) 1 (5 : Int32)) (8, 4, 0) 2 (sp_1 (5 : Int32))), fl, (xm_up (xm_up (xm_up (xm_up (xm_up (xm_up (xm_up (xm_up (xm_up (xm_up (xm_up (xm_up (xm_up (xm_up (xm_up (xm_up (xm_up r (7, 4, 0) 4 (some (8, 4, 0))) (9, 4, 0) 0 (some (10, 4, 0))) (7, 4, 0) 5 (some (9, 4, 0))) (7, 4, 0) 6 (some (11, 4, 0))) (9, 4, 6) 0 (some (10, 4, 6))) (11, 4, 0) 0 (some (9, 4, 6))) (9, 4, 7) 0 (some (10, 4, 7))) (11, 4, 0) 1 (some (9, 4, 7))) (9, 4, 8) 0 (some (10, 4, 8))) (11, 4, 0) 2 (some (9, 4, 8))) (9, 4, 9) 0 (some (10, 4, 9))) (11, 4, 0) 3 (some (9, 4, 9))) (9, 4, 10) 0 (some (10, 4, 10))) (11, 4, 0) 4 (some (9, 4, 10))) (7, 4, 0) 7 (some (12, 4, 0))) (9, 4, 2) 0 (some (10, 4, 2))) (12, 4, 0) 0 (some (9, 4, 2)))) R
  refine pg_43_101 rfl ?_
  refine pg_43_102 rfl ?_
  refine pg_43_103 (Nat.le_of_ble_eq_true rfl) (ct_61 (m := 5) (b := (10, 4, 3)) (rfl : (5 : Int32) = nI 5) (by decide) (en_a (by decide +kernel)) (en_k (by decide +kernel)) (en_ok (by decide +kernel))) ?_
  show xm_G (en 5 L) (d + 1) true 43 106 [some (xm_r (7, 4, 0)), some (xm_i (4 : Int32)), some (xm_i (5 : Int32)), some (xm_i (1 : Int32))] [xm_r (9, 4, 3), xm_i (1 : Int32), xm_r (12, 4, 0)] ((135, 558), (xm_up (xm_up (xm_up fi (7, 4, 0) 0 (4 : Int32)) (7, 4, 0) 1 (5 : Int32)) (8, 4, 0) 2 (sp_1 (5 : Int32))), fl, (xm_up (xm_up (xm_up (xm_up (xm_up (xm_up (xm_up (xm_up (xm_up (xm_up (xm_up (xm_up (xm_up (xm_up (xm_up (xm_up (xm_up (xm_up r (7, 4, 0) 4 (some (8, 4, 0))) (9, 4, 0) 0 (some (10, 4, 0))) (7, 4, 0) 5 (some (9, 4, 0))) (7, 4, 0) 6 (some (11, 4, 0))) (9, 4, 6) 0 (some (10, 4, 6))) (11, 4, 0) 0 (some (9, 4, 6))) (9, 4, 7) 0 (some (10, 4, 7))) (11, 4, 0) 1 (some (9, 4, 7))) (9, 4, 8) 0 (some (10, 4, 8))) (11, 4, 0) 2 (some (9, 4, 8))) (9, 4, 9) 0 (some (10, 4, 9))) (11, 4, 0) 3 (some (9, 4, 9))) (9, 4, 10) 0 (some (10, 4, 10))) (11, 4, 0) 4 (some (9, 4, 10))) (7, 4, 0) 7 (some (12, 4, 0))) (9, 4, 2) 0 (some (10, 4, 2))) (12, 4, 0) 0 (some (9, 4, 2))) (9, 4, 3) 0 (some (10, 4, 3)))) R
  refine pg_43_106 (en_ok (t := 4) (s := 0) (by decide +kernel)) (by decide) (by decide) (en_ok (s := 4) (by decide +kernel)) (i := 1) (rfl : (1 : Int32) = nI 1) (by decide) (by decide) ?_
  refine pg_43_107 (y := (2 : Int32)) (lv' := [some (xm_r (7, 4, 0)), some (xm_i (4 : Int32)), some (xm_i (5 : Int32)), some (xm_i (2 : Int32))]) rfl (by decide) rfl ?_
  refine pg_43_110 ?_
  refine pg_43_88 rfl ?_
  refine pg_43_89 ?_
  refine pg_43_90 (fun hc => absurd hc (by decide)) (fun _ => ?_)
  refine pg_43_93 rfl ?_
  refine pg_43_94 (en_ok (by decide +kernel)) rfl ?_
  refine pg_43_97 rfl ?_
  refine pg_43_98 (a := (9, 4, 4)) (en_a (by decide +kernel)) (en_k (by decide +kernel)) ?_
  show xm_G (en 5 L) (d + 1) true 43 101 [some (xm_r (7, 4, 0)), some (xm_i (4 : Int32)), some (xm_i (5 : Int32)), some (xm_i (2 : Int32))] [xm_r (9, 4, 4), xm_i (2 : Int32), xm_r (12, 4, 0)] ((136, 560), (xm_up (xm_up (xm_up fi (7, 4, 0) 0 (4 : Int32)) (7, 4, 0) 1 (5 : Int32)) (8, 4, 0) 2 (sp_1 (5 : Int32))), fl, (xm_up (xm_up (xm_up (xm_up (xm_up (xm_up (xm_up (xm_up (xm_up (xm_up (xm_up (xm_up (xm_up (xm_up (xm_up (xm_up (xm_up (xm_up (xm_up r (7, 4, 0) 4 (some (8, 4, 0))) (9, 4, 0) 0 (some (10, 4, 0))) (7, 4, 0) 5 (some (9, 4, 0))) (7, 4, 0) 6 (some (11, 4, 0))) (9, 4, 6) 0 (some (10, 4, 6))) (11, 4, 0) 0 (some (9, 4, 6))) (9, 4, 7) 0 (some (10, 4, 7))) (11, 4, 0) 1 (some (9, 4, 7))) (9, 4, 8) 0 (some (10, 4, 8))) (11, 4, 0) 2 (some (9, 4, 8))) (9, 4, 9) 0 (some (10, 4, 9))) (11, 4, 0) 3 (some (9, 4, 9))) (9, 4, 10) 0 (some (10, 4, 10))) (11, 4, 0) 4 (some (9, 4, 10))) (7, 4, 0) 7 (some (12, 4, 0))) (9, 4, 2) 0 (some (10, 4, 2))) (12, 4, 0) 0 (some (9, 4, 2))) (9, 4, 3) 0 (some (10, 4, 3))) (12, 4, 0) 1 (some (9, 4, 3)))) R
  refine pg_43_101 rfl ?_
  refine pg_43_102 rfl ?_
  refine pg_43_103 (Nat.le_of_ble_eq_true rfl) (ct_61 (m := 5) (b := (10, 4, 4)) (rfl : (5 : Int32) = nI 5) (by decide) (en_a (by decide +kernel)) (en_k (by decide +kernel)) (en_ok (by decide +kernel))) ?_
  show xm_G (en 5 L) (d + 1) true 43 106 [some (xm_r (7, 4, 0)), some (xm_i (4 : Int32)), some (xm_i (5 : Int32)), some (xm_i (2 : Int32))] [xm_r (9, 4, 4), xm_i (2 : Int32), xm_r (12, 4, 0)] ((137, 565), (xm_up (xm_up (xm_up fi (7, 4, 0) 0 (4 : Int32)) (7, 4, 0) 1 (5 : Int32)) (8, 4, 0) 2 (sp_1 (5 : Int32))), fl, (xm_up (xm_up (xm_up (xm_up (xm_up (xm_up (xm_up (xm_up (xm_up (xm_up (xm_up (xm_up (xm_up (xm_up (xm_up (xm_up (xm_up (xm_up (xm_up (xm_up r (7, 4, 0) 4 (some (8, 4, 0))) (9, 4, 0) 0 (some (10, 4, 0))) (7, 4, 0) 5 (some (9, 4, 0))) (7, 4, 0) 6 (some (11, 4, 0))) (9, 4, 6) 0 (some (10, 4, 6))) (11, 4, 0) 0 (some (9, 4, 6))) (9, 4, 7) 0 (some (10, 4, 7))) (11, 4, 0) 1 (some (9, 4, 7))) (9, 4, 8) 0 (some (10, 4, 8))) (11, 4, 0) 2 (some (9, 4, 8))) (9, 4, 9) 0 (some (10, 4, 9))) (11, 4, 0) 3 (some (9, 4, 9))) (9, 4, 10) 0 (some (10, 4, 10))) (11, 4, 0) 4 (some (9, 4, 10))) (7, 4, 0) 7 (some (12, 4, 0))) (9, 4, 2) 0 (some (10, 4, 2))) (12, 4, 0) 0 (some (9, 4, 2))) (9, 4, 3) 0 (some (10, 4, 3))) (12, 4, 0) 1 (some (9, 4, 3))) (9, 4, 4) 0 (some (10, 4, 4)))) R
  refine pg_43_106 (en_ok (t := 4) (s := 0) (by decide +kernel)) (by decide) (by decide) (en_ok (s := 4) (by decide +kernel)) (i := 2) (rfl : (2 : Int32) = nI 2) (by decide) (by decide) ?_
  refine pg_43_107 (y := (3 : Int32)) (lv' := [some (xm_r (7, 4, 0)), some (xm_i (4 : Int32)), some (xm_i (5 : Int32)), some (xm_i (3 : Int32))]) rfl (by decide) rfl ?_
  refine pg_43_110 ?_
  refine pg_43_88 rfl ?_
  refine pg_43_89 ?_
  refine pg_43_90 (fun hc => absurd hc (by decide)) (fun _ => ?_)
  refine pg_43_93 rfl ?_
  refine pg_43_94 (en_ok (by decide +kernel)) rfl ?_
  refine pg_43_97 rfl ?_
  refine pg_43_98 (a := (9, 4, 5)) (en_a (by decide +kernel)) (en_k (by decide +kernel)) ?_
  show xm_G (en 5 L) (d + 1) true 43 101 [some (xm_r (7, 4, 0)), some (xm_i (4 : Int32)), some (xm_i (5 : Int32)), some (xm_i (3 : Int32))] [xm_r (9, 4, 5), xm_i (3 : Int32), xm_r (12, 4, 0)] ((138, 567), (xm_up (xm_up (xm_up fi (7, 4, 0) 0 (4 : Int32)) (7, 4, 0) 1 (5 : Int32)) (8, 4, 0) 2 (sp_1 (5 : Int32))), fl, (xm_up (xm_up (xm_up (xm_up (xm_up (xm_up (xm_up (xm_up (xm_up (xm_up (xm_up (xm_up (xm_up (xm_up (xm_up (xm_up (xm_up (xm_up (xm_up (xm_up (xm_up r (7, 4, 0) 4 (some (8, 4, 0))) (9, 4, 0) 0 (some (10, 4, 0))) (7, 4, 0) 5 (some (9, 4, 0))) (7, 4, 0) 6 (some (11, 4, 0))) (9, 4, 6) 0 (some (10, 4, 6))) (11, 4, 0) 0 (some (9, 4, 6))) (9, 4, 7) 0 (some (10, 4, 7))) (11, 4, 0) 1 (some (9, 4, 7))) (9, 4, 8) 0 (some (10, 4, 8))) (11, 4, 0) 2 (some (9, 4, 8))) (9, 4, 9) 0 (some (10, 4, 9))) (11, 4, 0) 3 (some (9, 4, 9))) (9, 4, 10) 0 (some (10, 4, 10))) (11, 4, 0) 4 (some (9, 4, 10))) (7, 4, 0) 7 (some (12, 4, 0))) (9, 4, 2) 0 (some (10, 4, 2))) (12, 4, 0) 0 (some (9, 4, 2))) (9, 4, 3) 0 (some (10, 4, 3))) (12, 4, 0) 1 (some (9, 4, 3))) (9, 4, 4) 0 (some (10, 4, 4))) (12, 4, 0) 2 (some (9, 4, 4)))) R
  refine pg_43_101 rfl ?_
  refine pg_43_102 rfl ?_
  refine pg_43_103 (Nat.le_of_ble_eq_true rfl) (ct_61 (m := 5) (b := (10, 4, 5)) (rfl : (5 : Int32) = nI 5) (by decide) (en_a (by decide +kernel)) (en_k (by decide +kernel)) (en_ok (by decide +kernel))) ?_
  show xm_G (en 5 L) (d + 1) true 43 106 [some (xm_r (7, 4, 0)), some (xm_i (4 : Int32)), some (xm_i (5 : Int32)), some (xm_i (3 : Int32))] [xm_r (9, 4, 5), xm_i (3 : Int32), xm_r (12, 4, 0)] ((139, 572), (xm_up (xm_up (xm_up fi (7, 4, 0) 0 (4 : Int32)) (7, 4, 0) 1 (5 : Int32)) (8, 4, 0) 2 (sp_1 (5 : Int32))), fl, (xm_up (xm_up (xm_up (xm_up (xm_up (xm_up (xm_up (xm_up (xm_up (xm_up (xm_up (xm_up (xm_up (xm_up (xm_up (xm_up (xm_up (xm_up (xm_up (xm_up (xm_up (xm_up r (7, 4, 0) 4 (some (8, 4, 0))) (9, 4, 0) 0 (some (10, 4, 0))) (7, 4, 0) 5 (some (9, 4, 0))) (7, 4, 0) 6 (some (11, 4, 0))) (9, 4, 6) 0 (some (10, 4, 6))) (11, 4, 0) 0 (some (9, 4, 6))) (9, 4, 7) 0 (some (10, 4, 7))) (11, 4, 0) 1 (some (9, 4, 7))) (9, 4, 8) 0 (some (10, 4, 8))) (11, 4, 0) 2 (some (9, 4, 8))) (9, 4, 9) 0 (some (10, 4, 9))) (11, 4, 0) 3 (some (9, 4, 9))) (9, 4, 10) 0 (some (10, 4, 10))) (11, 4, 0) 4 (some (9, 4, 10))) (7, 4, 0) 7 (some (12, 4, 0))) (9, 4, 2) 0 (some (10, 4, 2))) (12, 4, 0) 0 (some (9, 4, 2))) (9, 4, 3) 0 (some (10, 4, 3))) (12, 4, 0) 1 (some (9, 4, 3))) (9, 4, 4) 0 (some (10, 4, 4))) (12, 4, 0) 2 (some (9, 4, 4))) (9, 4, 5) 0 (some (10, 4, 5)))) R
  refine pg_43_106 (en_ok (t := 4) (s := 0) (by decide +kernel)) (by decide) (by decide) (en_ok (s := 4) (by decide +kernel)) (i := 3) (rfl : (3 : Int32) = nI 3) (by decide) (by decide) ?_
  refine pg_43_107 (y := (4 : Int32)) (lv' := [some (xm_r (7, 4, 0)), some (xm_i (4 : Int32)), some (xm_i (5 : Int32)), some (xm_i (4 : Int32))]) rfl (by decide) rfl ?_
  refine pg_43_110 ?_
  refine pg_43_88 rfl ?_
  refine pg_43_89 ?_
  refine pg_43_90 (fun _ => ?_) (fun hc => absurd (by decide) hc)
  refine pg_43_113 rfl ?_
  refine pg_43_114 (a := (9, 4, 1)) (en_a (by decide +kernel)) (en_k (by decide +kernel)) ?_
  show xm_G (en 5 L) (d + 1) true 43 117 [some (xm_r (7, 4, 0)), some (xm_i (4 : Int32)), some (xm_i (5 : Int32)), some (xm_i (4 : Int32))] [xm_r (9, 4, 1), xm_r (7, 4, 0)] ((140, 574), (xm_up (xm_up (xm_up fi (7, 4, 0) 0 (4 : Int32)) (7, 4, 0) 1 (5 : Int32)) (8, 4, 0) 2 (sp_1 (5 : Int32))), fl, (xm_up (xm_up (xm_up (xm_up (xm_up (xm_up (xm_up (xm_up (xm_up (xm_up (xm_up (xm_up (xm_up (xm_up (xm_up (xm_up (xm_up (xm_up (xm_up (xm_up (xm_up (xm_up (xm_up r (7, 4, 0) 4 (some (8, 4, 0))) (9, 4, 0) 0 (some (10, 4, 0))) (7, 4, 0) 5 (some (9, 4, 0))) (7, 4, 0) 6 (some (11, 4, 0))) (9, 4, 6) 0 (some (10, 4, 6))) (11, 4, 0) 0 (some (9, 4, 6))) (9, 4, 7) 0 (some (10, 4, 7))) (11, 4, 0) 1 (some (9, 4, 7))) (9, 4, 8) 0 (some (10, 4, 8))) (11, 4, 0) 2 (some (9, 4, 8))) (9, 4, 9) 0 (some (10, 4, 9))) (11, 4, 0) 3 (some (9, 4, 9))) (9, 4, 10) 0 (some (10, 4, 10))) (11, 4, 0) 4 (some (9, 4, 10))) (7, 4, 0) 7 (some (12, 4, 0))) (9, 4, 2) 0 (some (10, 4, 2))) (12, 4, 0) 0 (some (9, 4, 2))) (9, 4, 3) 0 (some (10, 4, 3))) (12, 4, 0) 1 (some (9, 4, 3))) (9, 4, 4) 0 (some (10, 4, 4))) (12, 4, 0) 2 (some (9, 4, 4))) (9, 4, 5) 0 (some (10, 4, 5))) (12, 4, 0) 3 (some (9, 4, 5)))) R
  refine pg_43_117 rfl ?_
  refine pg_43_118 rfl ?_
  refine pg_43_119 (Nat.le_of_ble_eq_true rfl) (ct_61 (m := 5) (b := (10, 4, 1)) (rfl : (5 : Int32) = nI 5) (by decide) (en_a (by decide +kernel)) (en_k (by decide +kernel)) (en_ok (by decide +kernel))) ?_
  show xm_G (en 5 L) (d + 1) true 43 122 [some (xm_r (7, 4, 0)), some (xm_i (4 : Int32)), some (xm_i (5 : Int32)), some (xm_i (4 : Int32))] [xm_r (9, 4, 1), xm_r (7, 4, 0)] ((141, 579), (xm_up (xm_up (xm_up fi (7, 4, 0) 0 (4 : Int32)) (7, 4, 0) 1 (5 : Int32)) (8, 4, 0) 2 (sp_1 (5 : Int32))), fl, (xm_up (xm_up (xm_up (xm_up (xm_up (xm_up (xm_up (xm_up (xm_up (xm_up (xm_up (xm_up (xm_up (xm_up (xm_up (xm_up (xm_up (xm_up (xm_up (xm_up (xm_up (xm_up (xm_up (xm_up r (7, 4, 0) 4 (some (8, 4, 0))) (9, 4, 0) 0 (some (10, 4, 0))) (7, 4, 0) 5 (some (9, 4, 0))) (7, 4, 0) 6 (some (11, 4, 0))) (9, 4, 6) 0 (some (10, 4, 6))) (11, 4, 0) 0 (some (9, 4, 6))) (9, 4, 7) 0 (some (10, 4, 7))) (11, 4, 0) 1 (some (9, 4, 7))) (9, 4, 8) 0 (some (10, 4, 8))) (11, 4, 0) 2 (some (9, 4, 8))) (9, 4, 9) 0 (some (10, 4, 9))) (11, 4, 0) 3 (some (9, 4, 9))) (9, 4, 10) 0 (some (10, 4, 10))) (11, 4, 0) 4 (some (9, 4, 10))) (7, 4, 0) 7 (some (12, 4, 0))) (9, 4, 2) 0 (some (10, 4, 2))) (12, 4, 0) 0 (some (9, 4, 2))) (9, 4, 3) 0 (some (10, 4, 3))) (12, 4, 0) 1 (some (9, 4, 3))) (9, 4, 4) 0 (some (10, 4, 4))) (12, 4, 0) 2 (some (9, 4, 4))) (9, 4, 5) 0 (some (10, 4, 5))) (12, 4, 0) 3 (some (9, 4, 5))) (9, 4, 1) 0 (some (10, 4, 1)))) R
  refine pg_43_122 (en_ok (by decide +kernel)) ?_
  refine pg_43_125 rfl ?_
  refine pg_43_126 rfl ?_
  refine pg_43_127 (n := 5) (rfl : (5 : Int32) = nI 5) (by decide) (en_a (a := (13, 4, 0)) (by decide +kernel)) (en_k (by decide +kernel)) ?_
  show xm_G (en 5 L) (d + 1) true 43 129 [some (xm_r (7, 4, 0)), some (xm_i (4 : Int32)), some (xm_i (5 : Int32)), some (xm_i (4 : Int32))] [xm_r (13, 4, 0), xm_r (7, 4, 0)] ((142, 584), (xm_up (xm_up (xm_up fi (7, 4, 0) 0 (4 : Int32)) (7, 4, 0) 1 (5 : Int32)) (8, 4, 0) 2 (sp_1 (5 : Int32))), fl, (xm_up (xm_up (xm_up (xm_up (xm_up (xm_up (xm_up (xm_up (xm_up (xm_up (xm_up (xm_up (xm_up (xm_up (xm_up (xm_up (xm_up (xm_up (xm_up (xm_up (xm_up (xm_up (xm_up (xm_up (xm_up r (7, 4, 0) 4 (some (8, 4, 0))) (9, 4, 0) 0 (some (10, 4, 0))) (7, 4, 0) 5 (some (9, 4, 0))) (7, 4, 0) 6 (some (11, 4, 0))) (9, 4, 6) 0 (some (10, 4, 6))) (11, 4, 0) 0 (some (9, 4, 6))) (9, 4, 7) 0 (some (10, 4, 7))) (11, 4, 0) 1 (some (9, 4, 7))) (9, 4, 8) 0 (some (10, 4, 8))) (11, 4, 0) 2 (some (9, 4, 8))) (9, 4, 9) 0 (some (10, 4, 9))) (11, 4, 0) 3 (some (9, 4, 9))) (9, 4, 10) 0 (some (10, 4, 10))) (11, 4, 0) 4 (some (9, 4, 10))) (7, 4, 0) 7 (some (12, 4, 0))) (9, 4, 2) 0 (some (10, 4, 2))) (12, 4, 0) 0 (some (9, 4, 2))) (9, 4, 3) 0 (some (10, 4, 3))) (12, 4, 0) 1 (some (9, 4, 3))) (9, 4, 4) 0 (some (10, 4, 4))) (12, 4, 0) 2 (some (9, 4, 4))) (9, 4, 5) 0 (some (10, 4, 5))) (12, 4, 0) 3 (some (9, 4, 5))) (9, 4, 1) 0 (some (10, 4, 1))) (7, 4, 0) 8 (some (9, 4, 1)))) R
  refine pg_43_129 (en_ok (by decide +kernel)) ?_
  exact go_eq hR.symm (pg_43_132)
def cf_0_5_0 (fi : FI) (x : Int32) (k : Int32) : FI := (cf_43_5_4 (cf_43_5_3 (cf_43_5_2 (cf_43_5_1 (cf_43_5_0 (xm_up fi (1, 0, 0) 0 (if k < (1 : Int32) then (3 : Int32) else (if (8 : Int32) < k then (3 : Int32) else k))))))))
def cl_0_5_0 (fl : FL) : FL := (xm_up fl (1, 0, 0) 2 65536)
def cr_0_5_0 (r : xm_I → Nat → Option xm_I) : xm_I → Nat → Option xm_I := (xm_up (xm_up (xm_up (cr_43_5_4 (xm_up (cr_43_5_3 (xm_up (cr_43_5_2 (xm_up (cr_43_5_1 (xm_up (cr_43_5_0 (xm_up (xm_up (cr_36_5_0 (xm_up r (0, 0, 0) 0 (some (1, 0, 0)))) (0, 0, 0) 1 (some (2, 0, 0))) (0, 0, 0) 2 (some (6, 0, 0)))) (6, 0, 0) 0 (some (7, 0, 0)))) (6, 0, 0) 1 (some (7, 1, 0)))) (6, 0, 0) 2 (some (7, 2, 0)))) (6, 0, 0) 3 (some (7, 3, 0)))) (6, 0, 0) 4 (some (7, 4, 0))) (9, 6, 0) 0 (some (10, 6, 0))) (0, 0, 0) 3 (some (9, 6, 0)))
set_option maxRecDepth 8000 in
theorem ct_0_5_0 {L : Nat} {fi : FI} {fl : FL} {r : xm_I → Nat → Option xm_I} {d : Nat} {x : Int32} {k : Int32} (hN : (if x < (4 : Int32) then (4 : Int32) else (if (6 : Int32) < x then (4 : Int32) else x)) = (5 : Int32)) : xm_C (en 5 L) (d + 3) true 0 [xm_r (0, 0, 0), xm_i x, xm_i k] ((1, 7), fi, fl, r) (.inl none, ((144, 591), cf_0_5_0 fi x k, cl_0_5_0 fl, cr_0_5_0 r)) := by
  suffices key : ∀ (E : xm_E) (R : xm_O), E = en 5 L → ((.inl none, ((144, 591), cf_0_5_0 fi x k, cl_0_5_0 fl, cr_0_5_0 r)) : xm_O) = R → xm_G (en 5 L) (d + 2) true 0 0 [some (xm_r (0, 0, 0)), some (xm_i x), some (xm_i k), none, none] [] ((1, 7), fi, fl, r) R from go_inr (by decide) (Nat.le_of_ble_eq_true rfl) (key _ _ rfl rfl)
  intro E R hE hR
  refine pg_0_0 rfl ?_
  refine pg_0_1 (Nat.le_of_ble_eq_true rfl) ?_
  refine pg_0_4 rfl ?_
  refine pg_0_5 ?_
  suffices KJ : xm_G (en 5 L) (d + 2) true 0 20 [some (xm_r (0, 0, 0)), some (xm_i x), some (xm_i k), none, none] [xm_i (if x < (4 : Int32) then (4 : Int32) else (if (6 : Int32) < x then (4 : Int32) else x))] ((1, 7), fi, fl, r) R by
    refine pg_0_6 (fun hc1 => ?_) (fun hc2 => ?_)
    · refine pg_0_19 ?_
      repeat rw [if_pos hc1] at KJ
      repeat rw [if_pos hc1]
      exact KJ
    · refine pg_0_9 rfl ?_
      refine pg_0_10 ?_
      refine pg_0_12 (fun hc3 => ?_) (fun hc4 => ?_)
      · refine pg_0_19 ?_
        repeat rw [if_neg hc2] at KJ
        repeat rw [if_pos hc3] at KJ
        repeat rw [if_neg hc2]
        repeat rw [if_pos hc3]
        exact KJ
      · refine pg_0_15 rfl ?_
        refine pg_0_16 ?_
        repeat rw [if_neg hc2] at KJ
        repeat rw [if_neg hc4] at KJ
        repeat rw [if_neg hc2]
        repeat rw [if_neg hc4]
        exact KJ
  refine go_top (y := (5 : Int32)) hN ?_
  refine pg_0_20 (lv' := [some (xm_r (0, 0, 0)), some (xm_i x), some (xm_i k), some (xm_i (5 : Int32)), none]) rfl ?_
  refine pg_0_21 rfl ?_
  refine pg_0_22 (a := (1, 0, 0)) (en_a (by decide +kernel)) (en_k (by decide +kernel)) ?_
  show xm_G (en 5 L) (d + 2) true 0 25 [some (xm_r (0, 0, 0)), some (xm_i x), some (xm_i k), some (xm_i (5 : Int32)), none] [xm_r (1, 0, 0), xm_r (0, 0, 0)] ((2, 12), fi, fl, r) R
  refine pg_0_25 rfl ?_
  refine pg_0_26 rfl ?_
  refine pg_0_27 ?_
  suffices KJ : xm_G (en 5 L) (d + 2) true 0 42 [some (xm_r (0, 0, 0)), some (xm_i x), some (xm_i k), some (xm_i (5 : Int32)), none] [xm_i (if k < (1 : Int32) then (3 : Int32) else (if (8 : Int32) < k then (3 : Int32) else k)), xm_r (1, 0, 0), xm_r (1, 0, 0), xm_r (0, 0, 0)] ((2, 12), fi, fl, r) R by
    refine pg_0_28 (fun hc5 => ?_) (fun hc6 => ?_)
    · refine pg_0_41 ?_
      repeat rw [if_pos hc5] at KJ
      repeat rw [if_pos hc5]
      exact KJ
    · refine pg_0_31 rfl ?_
      refine pg_0_32 ?_
      refine pg_0_34 (fun hc7 => ?_) (fun hc8 => ?_)
      · refine pg_0_41 ?_
        repeat rw [if_neg hc6] at KJ
        repeat rw [if_pos hc7] at KJ
        repeat rw [if_neg hc6]
        repeat rw [if_pos hc7]
        exact KJ
      · refine pg_0_37 rfl ?_
        refine pg_0_38 ?_
        repeat rw [if_neg hc6] at KJ
        repeat rw [if_neg hc8] at KJ
        repeat rw [if_neg hc6]
        repeat rw [if_neg hc8]
        exact KJ
  refine pg_0_42 (Nat.le_of_ble_eq_true rfl) (ct_35 (en_ok (by decide +kernel))) ?_
  show xm_G (en 5 L) (d + 2) true 0 45 [some (xm_r (0, 0, 0)), some (xm_i x), some (xm_i k), some (xm_i (5 : Int32)), none] [xm_r (1, 0, 0), xm_r (0, 0, 0)] ((2, 12), (xm_up fi (1, 0, 0) 0 (if k < (1 : Int32) then (3 : Int32) else (if (8 : Int32) < k then (3 : Int32) else k))), (xm_up fl (1, 0, 0) 2 65536), r) R
  refine pg_0_45 (en_ok (by decide +kernel)) ?_
  refine pg_0_48 rfl ?_
  refine pg_0_49 (a := (2, 0, 0)) (en_a (by decide +kernel)) (en_k (by decide +kernel)) ?_
  show xm_G (en 5 L) (d + 2) true 0 52 [some (xm_r (0, 0, 0)), some (xm_i x), some (xm_i k), some (xm_i (5 : Int32)), none] [xm_r (2, 0, 0), xm_r (0, 0, 0)] ((3, 23), (xm_up fi (1, 0, 0) 0 (if k < (1 : Int32) then (3 : Int32) else (if (8 : Int32) < k then (3 : Int32) else k))), (xm_up fl (1, 0, 0) 2 65536), (xm_up r (0, 0, 0) 0 (some (1, 0, 0)))) R
  refine pg_0_52 rfl ?_
  refine pg_0_53 rfl ?_
  refine pg_0_54 (Nat.le_of_ble_eq_true rfl) (ct_36_5_0) ?_
  show xm_G (en 5 L) (d + 2) true 0 57 [some (xm_r (0, 0, 0)), some (xm_i x), some (xm_i k), some (xm_i (5 : Int32)), none] [xm_r (2, 0, 0), xm_r (0, 0, 0)] ((6, 39), (xm_up fi (1, 0, 0) 0 (if k < (1 : Int32) then (3 : Int32) else (if (8 : Int32) < k then (3 : Int32) else k))), (xm_up fl (1, 0, 0) 2 65536), (cr_36_5_0 (xm_up r (0, 0, 0) 0 (some (1, 0, 0))))) R
  refine pg_0_57 (en_ok (by decide +kernel)) ?_
  refine pg_0_60 rfl ?_
  refine pg_0_61 rfl ?_
  refine pg_0_62 (n := 5) (rfl : (5 : Int32) = nI 5) (by decide) (en_a (a := (6, 0, 0)) (by decide +kernel)) (en_k (by decide +kernel)) ?_
  show xm_G (en 5 L) (d + 2) true 0 65 [some (xm_r (0, 0, 0)), some (xm_i x), some (xm_i k), some (xm_i (5 : Int32)), none] [xm_r (6, 0, 0), xm_r (0, 0, 0)] ((7, 44), (xm_up fi (1, 0, 0) 0 (if k < (1 : Int32) then (3 : Int32) else (if (8 : Int32) < k then (3 : Int32) else k))), (xm_up fl (1, 0, 0) 2 65536), (xm_up (cr_36_5_0 (xm_up r (0, 0, 0) 0 (some (1, 0, 0)))) (0, 0, 0) 1 (some (2, 0, 0)))) R
  refine pg_0_65 (en_ok (by decide +kernel)) ?_
  refine pg_0_68 ?_
  refine pg_0_69 (lv' := [some (xm_r (0, 0, 0)), some (xm_i x), some (xm_i k), some (xm_i (5 : Int32)), some (xm_i (0 : Int32))]) rfl ?_
  refine pg_0_71 rfl ?_
  refine pg_0_73 rfl ?_
  refine pg_0_74 (fun hc => absurd hc (by decide)) (fun _ => ?_)
  refine pg_0_77 rfl ?_
  refine pg_0_78 (en_ok (by decide +kernel)) rfl ?_
  refine pg_0_81 rfl ?_
  refine pg_0_83 (a := (7, 0, 0)) (en_a (by decide +kernel)) (en_k (by decide +kernel)) ?_
  show xm_G (en 5 L) (d + 2) true 0 86 [some (xm_r (0, 0, 0)), some (xm_i x), some (xm_i k), some (xm_i (5 : Int32)), some (xm_i (0 : Int32))] [xm_r (7, 0, 0), xm_i (0 : Int32), xm_r (6, 0, 0)] ((8, 57), (xm_up fi (1, 0, 0) 0 (if k < (1 : Int32) then (3 : Int32) else (if (8 : Int32) < k then (3 : Int32) else k))), (xm_up fl (1, 0, 0) 2 65536), (xm_up (xm_up (cr_36_5_0 (xm_up r (0, 0, 0) 0 (some (1, 0, 0)))) (0, 0, 0) 1 (some (2, 0, 0))) (0, 0, 0) 2 (some (6, 0, 0)))) R
  refine pg_0_86 rfl ?_
  refine pg_0_87 rfl ?_
  refine pg_0_89 rfl ?_
  refine pg_0_90 (Nat.le_of_ble_eq_true rfl) (ct_43_5_0) ?_
  show xm_G (en 5 L) (d + 2) true 0 93 [some (xm_r (0, 0, 0)), some (xm_i x), some (xm_i k), some (xm_i (5 : Int32)), some (xm_i (0 : Int32))] [xm_r (7, 0, 0), xm_i (0 : Int32), xm_r (6, 0, 0)] ((34, 152), (cf_43_5_0 (xm_up fi (1, 0, 0) 0 (if k < (1 : Int32) then (3 : Int32) else (if (8 : Int32) < k then (3 : Int32) else k)))), (xm_up fl (1, 0, 0) 2 65536), (cr_43_5_0 (xm_up (xm_up (cr_36_5_0 (xm_up r (0, 0, 0) 0 (some (1, 0, 0)))) (0, 0, 0) 1 (some (2, 0, 0))) (0, 0, 0) 2 (some (6, 0, 0))))) R
  refine pg_0_93 (en_ok (t := 3) (s := 0) (by decide +kernel)) (by decide) (by decide) (en_ok (s := 5) (by decide +kernel)) (i := 0) (rfl : (0 : Int32) = nI 0) (by decide) (by decide) ?_
  refine pg_0_94 (y := (1 : Int32)) (lv' := [some (xm_r (0, 0, 0)), some (xm_i x), some (xm_i k), some (xm_i (5 : Int32)), some (xm_i (1 : Int32))]) rfl (by decide) rfl ?_
  refine pg_0_97 ?_
  refine pg_0_71 rfl ?_
  refine pg_0_73 rfl ?_
  refine pg_0_74 (fun hc => absurd hc (by decide)) (fun _ => ?_)
  refine pg_0_77 rfl ?_
  refine pg_0_78 (en_ok (by decide +kernel)) rfl ?_
  refine pg_0_81 rfl ?_
  refine pg_0_83 (a := (7, 1, 0)) (en_a (by decide +kernel)) (en_k (by decide +kernel)) ?_
  show xm_G (en 5 L) (d + 2) true 0 86 [some (xm_r (0, 0, 0)), some (xm_i x), some (xm_i k), some (xm_i (5 : Int32)), some (xm_i (1 : Int32))] [xm_r (7, 1, 0), xm_i (1 : Int32), xm_r (6, 0, 0)] ((35, 165), (cf_43_5_0 (xm_up fi (1, 0, 0) 0 (if k < (1 : Int32) then (3 : Int32) else (if (8 : Int32) < k then (3 : Int32) else k)))), (xm_up fl (1, 0, 0) 2 65536), (xm_up (cr_43_5_0 (xm_up (xm_up (cr_36_5_0 (xm_up r (0, 0, 0) 0 (some (1, 0, 0)))) (0, 0, 0) 1 (some (2, 0, 0))) (0, 0, 0) 2 (some (6, 0, 0)))) (6, 0, 0) 0 (some (7, 0, 0)))) R
  refine pg_0_86 rfl ?_
  refine pg_0_87 rfl ?_
  refine pg_0_89 rfl ?_
  refine pg_0_90 (Nat.le_of_ble_eq_true rfl) (ct_43_5_1) ?_
  show xm_G (en 5 L) (d + 2) true 0 93 [some (xm_r (0, 0, 0)), some (xm_i x), some (xm_i k), some (xm_i (5 : Int32)), some (xm_i (1 : Int32))] [xm_r (7, 1, 0), xm_i (1 : Int32), xm_r (6, 0, 0)] ((61, 260), (cf_43_5_1 (cf_43_5_0 (xm_up fi (1, 0, 0) 0 (if k < (1 : Int32) then (3 : Int32) else (if (8 : Int32) < k then (3 : Int32) else k))))), (xm_up fl (1, 0, 0) 2 65536), (cr_43_5_1 (xm_up (cr_43_5_0 (xm_up (xm_up (cr_36_5_0 (xm_up r (0, 0, 0) 0 (some (1, 0, 0)))) (0, 0, 0) 1 (some (2, 0, 0))) (0, 0, 0) 2 (some (6, 0, 0)))) (6, 0, 0) 0 (some (7, 0, 0))))) R
  refine pg_0_93 (en_ok (t := 3) (s := 0) (by decide +kernel)) (by decide) (by decide) (en_ok (s := 5) (by decide +kernel)) (i := 1) (rfl : (1 : Int32) = nI 1) (by decide) (by decide) ?_
  refine pg_0_94 (y := (2 : Int32)) (lv' := [some (xm_r (0, 0, 0)), some (xm_i x), some (xm_i k), some (xm_i (5 : Int32)), some (xm_i (2 : Int32))]) rfl (by decide) rfl ?_
  refine pg_0_97 ?_
  refine pg_0_71 rfl ?_
  refine pg_0_73 rfl ?_
  refine pg_0_74 (fun hc => absurd hc (by decide)) (fun _ => ?_)
  refine pg_0_77 rfl ?_
  refine pg_0_78 (en_ok (by decide +kernel)) rfl ?_
  refine pg_0_81 rfl ?_
  refine pg_0_83 (a := (7, 2, 0)) (en_a (by decide +kernel)) (en_k (by decide +kernel)) ?_
  show xm_G (en 5 L) (d + 2) true 0 86 [some (xm_r (0, 0, 0)), some (xm_i x), some (xm_i k), some (xm_i (5 : Int32)), some (xm_i (2 : Int32))] [xm_r (7, 2, 0), xm_i (2 : Int32), xm_r (6, 0, 0)] ((62, 273), (cf_43_5_1 (cf_43_5_0 (xm_up fi (1, 0, 0) 0 (if k < (1 : Int32) then (3 : Int32) else (if (8 : Int32) < k then (3 : Int32) else k))))), (xm_up fl (1, 0, 0) 2 65536), (xm_up (cr_43_5_1 (xm_up (cr_43_5_0 (xm_up (xm_up (cr_36_5_0 (xm_up r (0, 0, 0) 0 (some (1, 0, 0)))) (0, 0, 0) 1 (some (2, 0, 0))) (0, 0, 0) 2 (some (6, 0, 0)))) (6, 0, 0) 0 (some (7, 0, 0)))) (6, 0, 0) 1 (some (7, 1, 0)))) R
  refine pg_0_86 rfl ?_
  refine pg_0_87 rfl ?_
  refine pg_0_89 rfl ?_
  refine pg_0_90 (Nat.le_of_ble_eq_true rfl) (ct_43_5_2) ?_
  show xm_G (en 5 L) (d + 2) true 0 93 [some (xm_r (0, 0, 0)), some (xm_i x), some (xm_i k), some (xm_i (5 : Int32)), some (xm_i (2 : Int32))] [xm_r (7, 2, 0), xm_i (2 : Int32), xm_r (6, 0, 0)] ((88, 368), (cf_43_5_2 (cf_43_5_1 (cf_43_5_0 (xm_up fi (1, 0, 0) 0 (if k < (1 : Int32) then (3 : Int32) else (if (8 : Int32) < k then (3 : Int32) else k)))))), (xm_up fl (1, 0, 0) 2 65536), (cr_43_5_2 (xm_up (cr_43_5_1 (xm_up (cr_43_5_0 (xm_up (xm_up (cr_36_5_0 (xm_up r (0, 0, 0) 0 (some (1, 0, 0)))) (0, 0, 0) 1 (some (2, 0, 0))) (0, 0, 0) 2 (some (6, 0, 0)))) (6, 0, 0) 0 (some (7, 0, 0)))) (6, 0, 0) 1 (some (7, 1, 0))))) R
  refine pg_0_93 (en_ok (t := 3) (s := 0) (by decide +kernel)) (by decide) (by decide) (en_ok (s := 5) (by decide +kernel)) (i := 2) (rfl : (2 : Int32) = nI 2) (by decide) (by decide) ?_
  refine pg_0_94 (y := (3 : Int32)) (lv' := [some (xm_r (0, 0, 0)), some (xm_i x), some (xm_i k), some (xm_i (5 : Int32)), some (xm_i (3 : Int32))]) rfl (by decide) rfl ?_
  refine pg_0_97 ?_
  refine pg_0_71 rfl ?_
  refine pg_0_73 rfl ?_
  refine pg_0_74 (fun hc => absurd hc (by decide)) (fun _ => ?_)
  refine pg_0_77 rfl ?_
  refine pg_0_78 (en_ok (by decide +kernel)) rfl ?_
  refine pg_0_81 rfl ?_
  refine pg_0_83 (a := (7, 3, 0)) (en_a (by decide +kernel)) (en_k (by decide +kernel)) ?_
  show xm_G (en 5 L) (d + 2) true 0 86 [some (xm_r (0, 0, 0)), some (xm_i x), some (xm_i k), some (xm_i (5 : Int32)), some (xm_i (3 : Int32))] [xm_r (7, 3, 0), xm_i (3 : Int32), xm_r (6, 0, 0)] ((89, 381), (cf_43_5_2 (cf_43_5_1 (cf_43_5_0 (xm_up fi (1, 0, 0) 0 (if k < (1 : Int32) then (3 : Int32) else (if (8 : Int32) < k then (3 : Int32) else k)))))), (xm_up fl (1, 0, 0) 2 65536), (xm_up (cr_43_5_2 (xm_up (cr_43_5_1 (xm_up (cr_43_5_0 (xm_up (xm_up (cr_36_5_0 (xm_up r (0, 0, 0) 0 (some (1, 0, 0)))) (0, 0, 0) 1 (some (2, 0, 0))) (0, 0, 0) 2 (some (6, 0, 0)))) (6, 0, 0) 0 (some (7, 0, 0)))) (6, 0, 0) 1 (some (7, 1, 0)))) (6, 0, 0) 2 (some (7, 2, 0)))) R
  refine pg_0_86 rfl ?_
  refine pg_0_87 rfl ?_
  refine pg_0_89 rfl ?_
  refine pg_0_90 (Nat.le_of_ble_eq_true rfl) (ct_43_5_3) ?_
  show xm_G (en 5 L) (d + 2) true 0 93 [some (xm_r (0, 0, 0)), some (xm_i x), some (xm_i k), some (xm_i (5 : Int32)), some (xm_i (3 : Int32))] [xm_r (7, 3, 0), xm_i (3 : Int32), xm_r (6, 0, 0)] ((115, 476), (cf_43_5_3 (cf_43_5_2 (cf_43_5_1 (cf_43_5_0 (xm_up fi (1, 0, 0) 0 (if k < (1 : Int32) then (3 : Int32) else (if (8 : Int32) < k then (3 : Int32) else k))))))), (xm_up fl (1, 0, 0) 2 65536), (cr_43_5_3 (xm_up (cr_43_5_2 (xm_up (cr_43_5_1 (xm_up (cr_43_5_0 (xm_up (xm_up (cr_36_5_0 (xm_up r (0, 0, 0) 0 (some (1, 0, 0)))) (0, 0, 0) 1 (some (2, 0, 0))) (0, 0, 0) 2 (some (6, 0, 0)))) (6, 0, 0) 0 (some (7, 0, 0)))) (6, 0, 0) 1 (some (7, 1, 0)))) (6, 0, 0) 2 (some (7, 2, 0))))) R
  refine pg_0_93 (en_ok (t := 3) (s := 0) (by decide +kernel)) (by decide) (by decide) (en_ok (s := 5) (by decide +kernel)) (i := 3) (rfl : (3 : Int32) = nI 3) (by decide) (by decide) ?_
  refine pg_0_94 (y := (4 : Int32)) (lv' := [some (xm_r (0, 0, 0)), some (xm_i x), some (xm_i k), some (xm_i (5 : Int32)), some (xm_i (4 : Int32))]) rfl (by decide) rfl ?_
  refine pg_0_97 ?_
  refine pg_0_71 rfl ?_
  refine pg_0_73 rfl ?_
  refine pg_0_74 (fun hc => absurd hc (by decide)) (fun _ => ?_)
  refine pg_0_77 rfl ?_
  refine pg_0_78 (en_ok (by decide +kernel)) rfl ?_
  refine pg_0_81 rfl ?_
  refine pg_0_83 (a := (7, 4, 0)) (en_a (by decide +kernel)) (en_k (by decide +kernel)) ?_
  show xm_G (en 5 L) (d + 2) true 0 86 [some (xm_r (0, 0, 0)), some (xm_i x), some (xm_i k), some (xm_i (5 : Int32)), some (xm_i (4 : Int32))] [xm_r (7, 4, 0), xm_i (4 : Int32), xm_r (6, 0, 0)] ((116, 489), (cf_43_5_3 (cf_43_5_2 (cf_43_5_1 (cf_43_5_0 (xm_up fi (1, 0, 0) 0 (if k < (1 : Int32) then (3 : Int32) else (if (8 : Int32) < k then (3 : Int32) else k))))))), (xm_up fl (1, 0, 0) 2 65536), (xm_up (cr_43_5_3 (xm_up (cr_43_5_2 (xm_up (cr_43_5_1 (xm_up (cr_43_5_0 (xm_up (xm_up (cr_36_5_0 (xm_up r (0, 0, 0) 0 (some (1, 0, 0)))) (0, 0, 0) 1 (some (2, 0, 0))) (0, 0, 0) 2 (some (6, 0, 0)))) (6, 0, 0) 0 (some (7, 0, 0)))) (6, 0, 0) 1 (some (7, 1, 0)))) (6, 0, 0) 2 (some (7, 2, 0)))) (6, 0, 0) 3 (some (7, 3, 0)))) R
  refine pg_0_86 rfl ?_
  refine pg_0_87 rfl ?_
  refine pg_0_89 rfl ?_
  refine pg_0_90 (Nat.le_of_ble_eq_true rfl) (ct_43_5_4) ?_
  show xm_G (en 5 L) (d + 2) true 0 93 [some (xm_r (0, 0, 0)), some (xm_i x), some (xm_i k), some (xm_i (5 : Int32)), some (xm_i (4 : Int32))] [xm_r (7, 4, 0), xm_i (4 : Int32), xm_r (6, 0, 0)] ((142, 584), (cf_43_5_4 (cf_43_5_3 (cf_43_5_2 (cf_43_5_1 (cf_43_5_0 (xm_up fi (1, 0, 0) 0 (if k < (1 : Int32) then (3 : Int32) else (if (8 : Int32) < k then (3 : Int32) else k)))))))), (xm_up fl (1, 0, 0) 2 65536), (cr_43_5_4 (xm_up (cr_43_5_3 (xm_up (cr_43_5_2 (xm_up (cr_43_5_1 (xm_up (cr_43_5_0 (xm_up (xm_up (cr_36_5_0 (xm_up r (0, 0, 0) 0 (some (1, 0, 0)))) (0, 0, 0) 1 (some (2, 0, 0))) (0, 0, 0) 2 (some (6, 0, 0)))) (6, 0, 0) 0 (some (7, 0, 0)))) (6, 0, 0) 1 (some (7, 1, 0)))) (6, 0, 0) 2 (some (7, 2, 0)))) (6, 0, 0) 3 (some (7, 3, 0))))) R
  refine pg_0_93 (en_ok (t := 3) (s := 0) (by decide +kernel)) (by decide) (by decide) (en_ok (s := 5) (by decide +kernel)) (i := 4) (rfl : (4 : Int32) = nI 4) (by decide) (by decide) ?_
  refine pg_0_94 (y := (5 : Int32)) (lv' := [some (xm_r (0, 0, 0)), some (xm_i x), some (xm_i k), some (xm_i (5 : Int32)), some (xm_i (5 : Int32))]) rfl (by decide) rfl ?_
  refine pg_0_97 ?_
  refine pg_0_71 rfl ?_
  refine pg_0_73 rfl ?_
  refine pg_0_74 (fun _ => ?_) (fun hc => absurd (by decide) hc)
  refine pg_0_100 rfl ?_
  refine pg_0_101 (a := (9, 6, 0)) (en_a (by decide +kernel)) (en_k (by decide +kernel)) ?_
  show xm_G (en 5 L) (d + 2) true 0 104 [some (xm_r (0, 0, 0)), some (xm_i x), some (xm_i k), some (xm_i (5 : Int32)), some (xm_i (5 : Int32))] [xm_r (9, 6, 0), xm_r (0, 0, 0)] ((143, 586), (cf_43_5_4 (cf_43_5_3 (cf_43_5_2 (cf_43_5_1 (cf_43_5_0 (xm_up fi (1, 0, 0) 0 (if k < (1 : Int32) then (3 : Int32) else (if (8 : Int32) < k then (3 : Int32) else k)))))))), (xm_up fl (1, 0, 0) 2 65536), (xm_up (cr_43_5_4 (xm_up (cr_43_5_3 (xm_up (cr_43_5_2 (xm_up (cr_43_5_1 (xm_up (cr_43_5_0 (xm_up (xm_up (cr_36_5_0 (xm_up r (0, 0, 0) 0 (some (1, 0, 0)))) (0, 0, 0) 1 (some (2, 0, 0))) (0, 0, 0) 2 (some (6, 0, 0)))) (6, 0, 0) 0 (some (7, 0, 0)))) (6, 0, 0) 1 (some (7, 1, 0)))) (6, 0, 0) 2 (some (7, 2, 0)))) (6, 0, 0) 3 (some (7, 3, 0)))) (6, 0, 0) 4 (some (7, 4, 0)))) R
  refine pg_0_104 rfl ?_
  refine pg_0_105 rfl ?_
  refine pg_0_106 (Nat.le_of_ble_eq_true rfl) (ct_61 (m := 5) (b := (10, 6, 0)) (rfl : (5 : Int32) = nI 5) (by decide) (en_a (by decide +kernel)) (en_k (by decide +kernel)) (en_ok (by decide +kernel))) ?_
  show xm_G (en 5 L) (d + 2) true 0 109 [some (xm_r (0, 0, 0)), some (xm_i x), some (xm_i k), some (xm_i (5 : Int32)), some (xm_i (5 : Int32))] [xm_r (9, 6, 0), xm_r (0, 0, 0)] ((144, 591), (cf_43_5_4 (cf_43_5_3 (cf_43_5_2 (cf_43_5_1 (cf_43_5_0 (xm_up fi (1, 0, 0) 0 (if k < (1 : Int32) then (3 : Int32) else (if (8 : Int32) < k then (3 : Int32) else k)))))))), (xm_up fl (1, 0, 0) 2 65536), (xm_up (xm_up (cr_43_5_4 (xm_up (cr_43_5_3 (xm_up (cr_43_5_2 (xm_up (cr_43_5_1 (xm_up (cr_43_5_0 (xm_up (xm_up (cr_36_5_0 (xm_up r (0, 0, 0) 0 (some (1, 0, 0)))) (0, 0, 0) 1 (some (2, 0, 0))) (0, 0, 0) 2 (some (6, 0, 0)))) (6, 0, 0) 0 (some (7, 0, 0)))) (6, 0, 0) 1 (some (7, 1, 0)))) (6, 0, 0) 2 (some (7, 2, 0)))) (6, 0, 0) 3 (some (7, 3, 0)))) (6, 0, 0) 4 (some (7, 4, 0))) (9, 6, 0) 0 (some (10, 6, 0)))) R
  refine pg_0_109 (en_ok (by decide +kernel)) ?_
  exact go_eq hR.symm (pg_0_112)
def cf_68_5_0 (fi : FI) (x : Int32) (k : Int32) : FI := (xm_up (xm_up (xm_up (xm_up (xm_up (xm_up (xm_up (xm_up (xm_up (xm_up (xm_up (xm_up (xm_up (xm_up (xm_up (xm_up (xm_up (xm_up (xm_up (xm_up (xm_up (xm_up (xm_up (xm_up (xm_up (xm_up (xm_up (xm_up (xm_up (xm_up (xm_up (xm_up (xm_up (xm_up (xm_up (xm_up (xm_up (xm_up (xm_up fi (20, 0, 0) 5 (65536 : Int32)) (20, 0, 0) 1 (5 : Int32)) (20, 0, 0) 2 (if k < (1 : Int32) then (3 : Int32) else (if k ≤ (8 : Int32) then k else (3 : Int32)))) (21, 14, 0) 0 (1 : Int32)) (21, 14, 0) 1 (1 : Int32)) (21, 14, 0) 2 (1 : Int32)) (21, 14, 0) 3 (1 : Int32)) (21, 14, 0) 4 (1 : Int32)) (21, 14, 0) 5 (1 : Int32)) (21, 14, 0) 6 (1 : Int32)) (21, 14, 0) 7 (1 : Int32)) (21, 14, 0) 8 (1 : Int32)) (21, 14, 0) 9 (1 : Int32)) (21, 14, 0) 10 (1 : Int32)) (21, 14, 0) 11 (1 : Int32)) (21, 14, 0) 12 (1 : Int32)) (21, 14, 0) 13 (1 : Int32)) (21, 14, 0) 14 (1 : Int32)) (21, 14, 0) 15 (1 : Int32)) (21, 14, 0) 16 (1 : Int32)) (21, 14, 0) 17 (1 : Int32)) (21, 14, 0) 18 (1 : Int32)) (21, 14, 0) 19 (1 : Int32)) (21, 14, 0) 20 (1 : Int32)) (21, 14, 0) 21 (1 : Int32)) (21, 14, 0) 22 (1 : Int32)) (21, 14, 0) 23 (1 : Int32)) (21, 14, 0) 24 (1 : Int32)) (21, 14, 0) 25 (1 : Int32)) (21, 14, 0) 26 (1 : Int32)) (21, 14, 0) 27 (1 : Int32)) (21, 14, 0) 28 (1 : Int32)) (21, 14, 0) 29 (1 : Int32)) (21, 14, 0) 30 (1 : Int32)) (21, 14, 0) 31 (1 : Int32)) (21, 14, 0) 32 (1 : Int32)) (21, 14, 0) 33 (1 : Int32)) (21, 14, 0) 34 (1 : Int32)) (21, 14, 0) 35 (1 : Int32))
def cr_68_5_0 (r : xm_I → Nat → Option xm_I) : xm_I → Nat → Option xm_I := (xm_up (xm_up (xm_up (xm_up (xm_up (xm_up (xm_up (xm_up (xm_up (xm_up (xm_up (xm_up (xm_up (xm_up (xm_up (xm_up (xm_up (xm_up (xm_up (xm_up (xm_up (xm_up (xm_up (xm_up (xm_up r (20, 0, 0) 8 (some (21, 8, 0))) (20, 0, 0) 9 (some (21, 9, 0))) (20, 0, 0) 10 (some (21, 10, 0))) (20, 0, 0) 11 (some (21, 11, 0))) (20, 0, 0) 12 (some (21, 12, 0))) (20, 0, 0) 13 (some (21, 13, 0))) (20, 0, 0) 14 (some (21, 14, 0))) (20, 0, 0) 15 (some (21, 15, 0))) (20, 0, 0) 16 (some (21, 16, 0))) (20, 0, 0) 17 (some (21, 17, 0))) (20, 0, 0) 18 (some (21, 18, 0))) (20, 0, 0) 19 (some (21, 19, 0))) (20, 0, 0) 20 (some (21, 20, 0))) (20, 0, 0) 24 (some (21, 24, 0))) (20, 0, 0) 27 (some (21, 27, 0))) (20, 0, 0) 28 (some (21, 28, 0))) (20, 0, 0) 29 (some (21, 29, 0))) (20, 0, 0) 30 (some (21, 30, 0))) (20, 0, 0) 31 (some (21, 31, 0))) (20, 0, 0) 32 (some (21, 32, 0))) (20, 0, 0) 33 (some (21, 33, 0))) (20, 0, 0) 34 (some (21, 34, 0))) (20, 0, 0) 35 (some (21, 35, 0))) (20, 0, 0) 37 (some (21, 37, 0))) (20, 0, 0) 38 (some (21, 38, 0)))
set_option maxRecDepth 8000 in
theorem ct_68_5_0 {L : Nat} {fi : FI} {fl : FL} {r : xm_I → Nat → Option xm_I} {d : Nat} {x : Int32} {k : Int32} (hM : (if x < (4 : Int32) then (4 : Int32) else (if x ≤ (6 : Int32) then x else (4 : Int32))) = (5 : Int32)) : xm_C (en 5 L) (d + 2) true 68 [xm_r (20, 0, 0), xm_i x, xm_i k] ((145, 631), fi, fl, r) (.inl none, ((170, 1676), cf_68_5_0 fi x k, fl, cr_68_5_0 r)) := by
  suffices key : ∀ (E : xm_E) (R : xm_O), E = en 5 L → ((.inl none, ((170, 1676), cf_68_5_0 fi x k, fl, cr_68_5_0 r)) : xm_O) = R → xm_G (en 5 L) (d + 1) true 68 0 [some (xm_r (20, 0, 0)), some (xm_i x), some (xm_i k), none] [] ((145, 631), fi, fl, r) R from go_inr (by decide) (Nat.le_of_ble_eq_true rfl) (key _ _ rfl rfl)
  intro E R hE hR
  refine pg_68_0 rfl ?_
  refine pg_68_1 (Nat.le_of_ble_eq_true rfl) ?_
  refine pg_68_4 rfl ?_
  refine pg_68_5 ?_
  refine pg_68_7 (en_ok (by decide +kernel)) ?_
  refine pg_68_10 rfl ?_
  refine pg_68_11 ?_
  refine pg_68_13 (n := 6) (rfl : (6 : Int32) = nI 6) (by decide) (en_a (a := (21, 8, 0)) (by decide +kernel)) (en_k (by decide +kernel)) ?_
  show xm_G (en 5 L) (d + 1) true 68 15 [some (xm_r (20, 0, 0)), some (xm_i x), some (xm_i k), none] [xm_r (21, 8, 0), xm_r (20, 0, 0)] ((146, 637), (xm_up fi (20, 0, 0) 5 (65536 : Int32)), fl, r) R
  refine pg_68_15 (en_ok (by decide +kernel)) ?_
  refine pg_68_18 rfl ?_
  refine pg_68_19 ?_
  refine pg_68_21 (n := 6) (rfl : (6 : Int32) = nI 6) (by decide) (en_a (a := (21, 9, 0)) (by decide +kernel)) (en_k (by decide +kernel)) ?_
  show xm_G (en 5 L) (d + 1) true 68 23 [some (xm_r (20, 0, 0)), some (xm_i x), some (xm_i k), none] [xm_r (21, 9, 0), xm_r (20, 0, 0)] ((147, 643), (xm_up fi (20, 0, 0) 5 (65536 : Int32)), fl, (xm_up r (20, 0, 0) 8 (some (21, 8, 0)))) R
  refine pg_68_23 (en_ok (by decide +kernel)) ?_
  refine pg_68_26 rfl ?_
  refine pg_68_27 ?_
  refine pg_68_29 (n := 6) (rfl : (6 : Int32) = nI 6) (by decide) (en_a (a := (21, 10, 0)) (by decide +kernel)) (en_k (by decide +kernel)) ?_
  show xm_G (en 5 L) (d + 1) true 68 31 [some (xm_r (20, 0, 0)), some (xm_i x), some (xm_i k), none] [xm_r (21, 10, 0), xm_r (20, 0, 0)] ((148, 649), (xm_up fi (20, 0, 0) 5 (65536 : Int32)), fl, (xm_up (xm_up r (20, 0, 0) 8 (some (21, 8, 0))) (20, 0, 0) 9 (some (21, 9, 0)))) R
  refine pg_68_31 (en_ok (by decide +kernel)) ?_
  refine pg_68_34 rfl ?_
  refine pg_68_35 ?_
  refine pg_68_37 (n := 6) (rfl : (6 : Int32) = nI 6) (by decide) (en_a (a := (21, 11, 0)) (by decide +kernel)) (en_k (by decide +kernel)) ?_
  show xm_G (en 5 L) (d + 1) true 68 39 [some (xm_r (20, 0, 0)), some (xm_i x), some (xm_i k), none] [xm_r (21, 11, 0), xm_r (20, 0, 0)] ((149, 655), (xm_up fi (20, 0, 0) 5 (65536 : Int32)), fl, (xm_up (xm_up (xm_up r (20, 0, 0) 8 (some (21, 8, 0))) (20, 0, 0) 9 (some (21, 9, 0))) (20, 0, 0) 10 (some (21, 10, 0)))) R
  refine pg_68_39 (en_ok (by decide +kernel)) ?_
  refine pg_68_42 rfl ?_
  refine pg_68_43 ?_
  refine pg_68_45 (n := 6) (rfl : (6 : Int32) = nI 6) (by decide) (en_a (a := (21, 12, 0)) (by decide +kernel)) (en_k (by decide +kernel)) ?_
  show xm_G (en 5 L) (d + 1) true 68 47 [some (xm_r (20, 0, 0)), some (xm_i x), some (xm_i k), none] [xm_r (21, 12, 0), xm_r (20, 0, 0)] ((150, 661), (xm_up fi (20, 0, 0) 5 (65536 : Int32)), fl, (xm_up (xm_up (xm_up (xm_up r (20, 0, 0) 8 (some (21, 8, 0))) (20, 0, 0) 9 (some (21, 9, 0))) (20, 0, 0) 10 (some (21, 10, 0))) (20, 0, 0) 11 (some (21, 11, 0)))) R
  refine pg_68_47 (en_ok (by decide +kernel)) ?_
  refine pg_68_50 rfl ?_
  refine pg_68_51 ?_
  refine pg_68_53 (n := 6) (rfl : (6 : Int32) = nI 6) (by decide) (en_a (a := (21, 13, 0)) (by decide +kernel)) (en_k (by decide +kernel)) ?_
  show xm_G (en 5 L) (d + 1) true 68 55 [some (xm_r (20, 0, 0)), some (xm_i x), some (xm_i k), none] [xm_r (21, 13, 0), xm_r (20, 0, 0)] ((151, 667), (xm_up fi (20, 0, 0) 5 (65536 : Int32)), fl, (xm_up (xm_up (xm_up (xm_up (xm_up r (20, 0, 0) 8 (some (21, 8, 0))) (20, 0, 0) 9 (some (21, 9, 0))) (20, 0, 0) 10 (some (21, 10, 0))) (20, 0, 0) 11 (some (21, 11, 0))) (20, 0, 0) 12 (some (21, 12, 0)))) R
  refine pg_68_55 (en_ok (by decide +kernel)) ?_
  refine pg_68_58 rfl ?_
  refine pg_68_59 ?_
  refine pg_68_61 (n := 36) (rfl : (36 : Int32) = nI 36) (by decide) (en_a (a := (21, 14, 0)) (by decide +kernel)) (en_k (by decide +kernel)) ?_
  show xm_G (en 5 L) (d + 1) true 68 63 [some (xm_r (20, 0, 0)), some (xm_i x), some (xm_i k), none] [xm_r (21, 14, 0), xm_r (20, 0, 0)] ((152, 703), (xm_up fi (20, 0, 0) 5 (65536 : Int32)), fl, (xm_up (xm_up (xm_up (xm_up (xm_up (xm_up r (20, 0, 0) 8 (some (21, 8, 0))) (20, 0, 0) 9 (some (21, 9, 0))) (20, 0, 0) 10 (some (21, 10, 0))) (20, 0, 0) 11 (some (21, 11, 0))) (20, 0, 0) 12 (some (21, 12, 0))) (20, 0, 0) 13 (some (21, 13, 0)))) R
  refine pg_68_63 (en_ok (by decide +kernel)) ?_
  refine pg_68_66 rfl ?_
  refine pg_68_67 ?_
  refine pg_68_69 (n := 36) (rfl : (36 : Int32) = nI 36) (by decide) (en_a (a := (21, 15, 0)) (by decide +kernel)) (en_k (by decide +kernel)) ?_
  show xm_G (en 5 L) (d + 1) true 68 71 [some (xm_r (20, 0, 0)), some (xm_i x), some (xm_i k), none] [xm_r (21, 15, 0), xm_r (20, 0, 0)] ((153, 739), (xm_up fi (20, 0, 0) 5 (65536 : Int32)), fl, (xm_up (xm_up (xm_up (xm_up (xm_up (xm_up (xm_up r (20, 0, 0) 8 (some (21, 8, 0))) (20, 0, 0) 9 (some (21, 9, 0))) (20, 0, 0) 10 (some (21, 10, 0))) (20, 0, 0) 11 (some (21, 11, 0))) (20, 0, 0) 12 (some (21, 12, 0))) (20, 0, 0) 13 (some (21, 13, 0))) (20, 0, 0) 14 (some (21, 14, 0)))) R
  refine pg_68_71 (en_ok (by decide +kernel)) ?_
  refine pg_68_74 rfl ?_
  refine pg_68_75 ?_
  refine pg_68_77 (n := 36) (rfl : (36 : Int32) = nI 36) (by decide) (en_a (a := (21, 16, 0)) (by decide +kernel)) (en_k (by decide +kernel)) ?_
  show xm_G (en 5 L) (d + 1) true 68 79 [some (xm_r (20, 0, 0)), some (xm_i x), some (xm_i k), none] [xm_r (21, 16, 0), xm_r (20, 0, 0)] ((154, 775), (xm_up fi (20, 0, 0) 5 (65536 : Int32)), fl, (xm_up (xm_up (xm_up (xm_up (xm_up (xm_up (xm_up (xm_up r (20, 0, 0) 8 (some (21, 8, 0))) (20, 0, 0) 9 (some (21, 9, 0))) (20, 0, 0) 10 (some (21, 10, 0))) (20, 0, 0) 11 (some (21, 11, 0))) (20, 0, 0) 12 (some (21, 12, 0))) (20, 0, 0) 13 (some (21, 13, 0))) (20, 0, 0) 14 (some (21, 14, 0))) (20, 0, 0) 15 (some (21, 15, 0)))) R
  refine pg_68_79 (en_ok (by decide +kernel)) ?_
  refine pg_68_82 rfl ?_
  refine pg_68_83 ?_
  refine pg_68_85 (n := 36) (rfl : (36 : Int32) = nI 36) (by decide) (en_a (a := (21, 17, 0)) (by decide +kernel)) (en_k (by decide +kernel)) ?_
  show xm_G (en 5 L) (d + 1) true 68 87 [some (xm_r (20, 0, 0)), some (xm_i x), some (xm_i k), none] [xm_r (21, 17, 0), xm_r (20, 0, 0)] ((155, 811), (xm_up fi (20, 0, 0) 5 (65536 : Int32)), fl, (xm_up (xm_up (xm_up (xm_up (xm_up (xm_up (xm_up (xm_up (xm_up r (20, 0, 0) 8 (some (21, 8, 0))) (20, 0, 0) 9 (some (21, 9, 0))) (20, 0, 0) 10 (some (21, 10, 0))) (20, 0, 0) 11 (some (21, 11, 0))) (20, 0, 0) 12 (some (21, 12, 0))) (20, 0, 0) 13 (some (21, 13, 0))) (20, 0, 0) 14 (some (21, 14, 0))) (20, 0, 0) 15 (some (21, 15, 0))) (20, 0, 0) 16 (some (21, 16, 0)))) R
  refine pg_68_87 (en_ok (by decide +kernel)) ?_
  refine pg_68_90 rfl ?_
  refine pg_68_91 ?_
  refine pg_68_93 (n := 6) (rfl : (6 : Int32) = nI 6) (by decide) (en_a (a := (21, 18, 0)) (by decide +kernel)) (en_k (by decide +kernel)) ?_
  show xm_G (en 5 L) (d + 1) true 68 95 [some (xm_r (20, 0, 0)), some (xm_i x), some (xm_i k), none] [xm_r (21, 18, 0), xm_r (20, 0, 0)] ((156, 817), (xm_up fi (20, 0, 0) 5 (65536 : Int32)), fl, (xm_up (xm_up (xm_up (xm_up (xm_up (xm_up (xm_up (xm_up (xm_up (xm_up r (20, 0, 0) 8 (some (21, 8, 0))) (20, 0, 0) 9 (some (21, 9, 0))) (20, 0, 0) 10 (some (21, 10, 0))) (20, 0, 0) 11 (some (21, 11, 0))) (20, 0, 0) 12 (some (21, 12, 0))) (20, 0, 0) 13 (some (21, 13, 0))) (20, 0, 0) 14 (some (21, 14, 0))) (20, 0, 0) 15 (some (21, 15, 0))) (20, 0, 0) 16 (some (21, 16, 0))) (20, 0, 0) 17 (some (21, 17, 0)))) R
  refine pg_68_95 (en_ok (by decide +kernel)) ?_
  refine pg_68_98 rfl ?_
  refine pg_68_99 ?_
  refine pg_68_101 (n := 6) (rfl : (6 : Int32) = nI 6) (by decide) (en_a (a := (21, 19, 0)) (by decide +kernel)) (en_k (by decide +kernel)) ?_
  show xm_G (en 5 L) (d + 1) true 68 103 [some (xm_r (20, 0, 0)), some (xm_i x), some (xm_i k), none] [xm_r (21, 19, 0), xm_r (20, 0, 0)] ((157, 823), (xm_up fi (20, 0, 0) 5 (65536 : Int32)), fl, (xm_up (xm_up (xm_up (xm_up (xm_up (xm_up (xm_up (xm_up (xm_up (xm_up (xm_up r (20, 0, 0) 8 (some (21, 8, 0))) (20, 0, 0) 9 (some (21, 9, 0))) (20, 0, 0) 10 (some (21, 10, 0))) (20, 0, 0) 11 (some (21, 11, 0))) (20, 0, 0) 12 (some (21, 12, 0))) (20, 0, 0) 13 (some (21, 13, 0))) (20, 0, 0) 14 (some (21, 14, 0))) (20, 0, 0) 15 (some (21, 15, 0))) (20, 0, 0) 16 (some (21, 16, 0))) (20, 0, 0) 17 (some (21, 17, 0))) (20, 0, 0) 18 (some (21, 18, 0)))) R
  refine pg_68_103 (en_ok (by decide +kernel)) ?_
  refine pg_68_106 rfl ?_
  refine pg_68_107 ?_
  refine pg_68_109 (n := 6) (rfl : (6 : Int32) = nI 6) (by decide) (en_a (a := (21, 20, 0)) (by decide +kernel)) (en_k (by decide +kernel)) ?_
  show xm_G (en 5 L) (d + 1) true 68 111 [some (xm_r (20, 0, 0)), some (xm_i x), some (xm_i k), none] [xm_r (21, 20, 0), xm_r (20, 0, 0)] ((158, 829), (xm_up fi (20, 0, 0) 5 (65536 : Int32)), fl, (xm_up (xm_up (xm_up (xm_up (xm_up (xm_up (xm_up (xm_up (xm_up (xm_up (xm_up (xm_up r (20, 0, 0) 8 (some (21, 8, 0))) (20, 0, 0) 9 (some (21, 9, 0))) (20, 0, 0) 10 (some (21, 10, 0))) (20, 0, 0) 11 (some (21, 11, 0))) (20, 0, 0) 12 (some (21, 12, 0))) (20, 0, 0) 13 (some (21, 13, 0))) (20, 0, 0) 14 (some (21, 14, 0))) (20, 0, 0) 15 (some (21, 15, 0))) (20, 0, 0) 16 (some (21, 16, 0))) (20, 0, 0) 17 (some (21, 17, 0))) (20, 0, 0) 18 (some (21, 18, 0))) (20, 0, 0) 19 (some (21, 19, 0)))) R
  refine pg_68_111 (en_ok (by decide +kernel)) ?_
  refine pg_68_114 rfl ?_
  refine pg_68_115 ?_
  refine pg_68_117 (n := 7) (rfl : (7 : Int32) = nI 7) (by decide) (en_a (a := (21, 24, 0)) (by decide +kernel)) (en_k (by decide +kernel)) ?_
  show xm_G (en 5 L) (d + 1) true 68 119 [some (xm_r (20, 0, 0)), some (xm_i x), some (xm_i k), none] [xm_r (21, 24, 0), xm_r (20, 0, 0)] ((159, 836), (xm_up fi (20, 0, 0) 5 (65536 : Int32)), fl, (xm_up (xm_up (xm_up (xm_up (xm_up (xm_up (xm_up (xm_up (xm_up (xm_up (xm_up (xm_up (xm_up r (20, 0, 0) 8 (some (21, 8, 0))) (20, 0, 0) 9 (some (21, 9, 0))) (20, 0, 0) 10 (some (21, 10, 0))) (20, 0, 0) 11 (some (21, 11, 0))) (20, 0, 0) 12 (some (21, 12, 0))) (20, 0, 0) 13 (some (21, 13, 0))) (20, 0, 0) 14 (some (21, 14, 0))) (20, 0, 0) 15 (some (21, 15, 0))) (20, 0, 0) 16 (some (21, 16, 0))) (20, 0, 0) 17 (some (21, 17, 0))) (20, 0, 0) 18 (some (21, 18, 0))) (20, 0, 0) 19 (some (21, 19, 0))) (20, 0, 0) 20 (some (21, 20, 0)))) R
  refine pg_68_119 (en_ok (by decide +kernel)) ?_
  refine pg_68_122 rfl ?_
  refine pg_68_123 ?_
  refine pg_68_125 (n := 36) (rfl : (36 : Int32) = nI 36) (by decide) (en_a (a := (21, 27, 0)) (by decide +kernel)) (en_k (by decide +kernel)) ?_
  show xm_G (en 5 L) (d + 1) true 68 127 [some (xm_r (20, 0, 0)), some (xm_i x), some (xm_i k), none] [xm_r (21, 27, 0), xm_r (20, 0, 0)] ((160, 872), (xm_up fi (20, 0, 0) 5 (65536 : Int32)), fl, (xm_up (xm_up (xm_up (xm_up (xm_up (xm_up (xm_up (xm_up (xm_up (xm_up (xm_up (xm_up (xm_up (xm_up r (20, 0, 0) 8 (some (21, 8, 0))) (20, 0, 0) 9 (some (21, 9, 0))) (20, 0, 0) 10 (some (21, 10, 0))) (20, 0, 0) 11 (some (21, 11, 0))) (20, 0, 0) 12 (some (21, 12, 0))) (20, 0, 0) 13 (some (21, 13, 0))) (20, 0, 0) 14 (some (21, 14, 0))) (20, 0, 0) 15 (some (21, 15, 0))) (20, 0, 0) 16 (some (21, 16, 0))) (20, 0, 0) 17 (some (21, 17, 0))) (20, 0, 0) 18 (some (21, 18, 0))) (20, 0, 0) 19 (some (21, 19, 0))) (20, 0, 0) 20 (some (21, 20, 0))) (20, 0, 0) 24 (some (21, 24, 0)))) R
  refine pg_68_127 (en_ok (by decide +kernel)) ?_
  refine pg_68_130 rfl ?_
  refine pg_68_131 ?_
  refine pg_68_133 (n := 36) (rfl : (36 : Int32) = nI 36) (by decide) (en_a (a := (21, 28, 0)) (by decide +kernel)) (en_k (by decide +kernel)) ?_
  show xm_G (en 5 L) (d + 1) true 68 135 [some (xm_r (20, 0, 0)), some (xm_i x), some (xm_i k), none] [xm_r (21, 28, 0), xm_r (20, 0, 0)] ((161, 908), (xm_up fi (20, 0, 0) 5 (65536 : Int32)), fl, (xm_up (xm_up (xm_up (xm_up (xm_up (xm_up (xm_up (xm_up (xm_up (xm_up (xm_up (xm_up (xm_up (xm_up (xm_up r (20, 0, 0) 8 (some (21, 8, 0))) (20, 0, 0) 9 (some (21, 9, 0))) (20, 0, 0) 10 (some (21, 10, 0))) (20, 0, 0) 11 (some (21, 11, 0))) (20, 0, 0) 12 (some (21, 12, 0))) (20, 0, 0) 13 (some (21, 13, 0))) (20, 0, 0) 14 (some (21, 14, 0))) (20, 0, 0) 15 (some (21, 15, 0))) (20, 0, 0) 16 (some (21, 16, 0))) (20, 0, 0) 17 (some (21, 17, 0))) (20, 0, 0) 18 (some (21, 18, 0))) (20, 0, 0) 19 (some (21, 19, 0))) (20, 0, 0) 20 (some (21, 20, 0))) (20, 0, 0) 24 (some (21, 24, 0))) (20, 0, 0) 27 (some (21, 27, 0)))) R
  refine pg_68_135 (en_ok (by decide +kernel)) ?_
  refine pg_68_138 rfl ?_
  refine pg_68_139 ?_
  refine pg_68_142 (n := 216) (rfl : (216 : Int32) = nI 216) (by decide) (en_a (a := (21, 29, 0)) (by decide +kernel)) (en_k (by decide +kernel)) ?_
  show xm_G (en 5 L) (d + 1) true 68 144 [some (xm_r (20, 0, 0)), some (xm_i x), some (xm_i k), none] [xm_r (21, 29, 0), xm_r (20, 0, 0)] ((162, 1124), (xm_up fi (20, 0, 0) 5 (65536 : Int32)), fl, (xm_up (xm_up (xm_up (xm_up (xm_up (xm_up (xm_up (xm_up (xm_up (xm_up (xm_up (xm_up (xm_up (xm_up (xm_up (xm_up r (20, 0, 0) 8 (some (21, 8, 0))) (20, 0, 0) 9 (some (21, 9, 0))) (20, 0, 0) 10 (some (21, 10, 0))) (20, 0, 0) 11 (some (21, 11, 0))) (20, 0, 0) 12 (some (21, 12, 0))) (20, 0, 0) 13 (some (21, 13, 0))) (20, 0, 0) 14 (some (21, 14, 0))) (20, 0, 0) 15 (some (21, 15, 0))) (20, 0, 0) 16 (some (21, 16, 0))) (20, 0, 0) 17 (some (21, 17, 0))) (20, 0, 0) 18 (some (21, 18, 0))) (20, 0, 0) 19 (some (21, 19, 0))) (20, 0, 0) 20 (some (21, 20, 0))) (20, 0, 0) 24 (some (21, 24, 0))) (20, 0, 0) 27 (some (21, 27, 0))) (20, 0, 0) 28 (some (21, 28, 0)))) R
  refine pg_68_144 (en_ok (by decide +kernel)) ?_
  refine pg_68_147 rfl ?_
  refine pg_68_148 ?_
  refine pg_68_151 (n := 216) (rfl : (216 : Int32) = nI 216) (by decide) (en_a (a := (21, 30, 0)) (by decide +kernel)) (en_k (by decide +kernel)) ?_
  show xm_G (en 5 L) (d + 1) true 68 153 [some (xm_r (20, 0, 0)), some (xm_i x), some (xm_i k), none] [xm_r (21, 30, 0), xm_r (20, 0, 0)] ((163, 1340), (xm_up fi (20, 0, 0) 5 (65536 : Int32)), fl, (xm_up (xm_up (xm_up (xm_up (xm_up (xm_up (xm_up (xm_up (xm_up (xm_up (xm_up (xm_up (xm_up (xm_up (xm_up (xm_up (xm_up r (20, 0, 0) 8 (some (21, 8, 0))) (20, 0, 0) 9 (some (21, 9, 0))) (20, 0, 0) 10 (some (21, 10, 0))) (20, 0, 0) 11 (some (21, 11, 0))) (20, 0, 0) 12 (some (21, 12, 0))) (20, 0, 0) 13 (some (21, 13, 0))) (20, 0, 0) 14 (some (21, 14, 0))) (20, 0, 0) 15 (some (21, 15, 0))) (20, 0, 0) 16 (some (21, 16, 0))) (20, 0, 0) 17 (some (21, 17, 0))) (20, 0, 0) 18 (some (21, 18, 0))) (20, 0, 0) 19 (some (21, 19, 0))) (20, 0, 0) 20 (some (21, 20, 0))) (20, 0, 0) 24 (some (21, 24, 0))) (20, 0, 0) 27 (some (21, 27, 0))) (20, 0, 0) 28 (some (21, 28, 0))) (20, 0, 0) 29 (some (21, 29, 0)))) R
  refine pg_68_153 (en_ok (by decide +kernel)) ?_
  refine pg_68_156 rfl ?_
  refine pg_68_157 ?_
  refine pg_68_159 (n := 6) (rfl : (6 : Int32) = nI 6) (by decide) (en_a (a := (21, 31, 0)) (by decide +kernel)) (en_k (by decide +kernel)) ?_
  show xm_G (en 5 L) (d + 1) true 68 161 [some (xm_r (20, 0, 0)), some (xm_i x), some (xm_i k), none] [xm_r (21, 31, 0), xm_r (20, 0, 0)] ((164, 1346), (xm_up fi (20, 0, 0) 5 (65536 : Int32)), fl, (xm_up (xm_up (xm_up (xm_up (xm_up (xm_up (xm_up (xm_up (xm_up (xm_up (xm_up (xm_up (xm_up (xm_up (xm_up (xm_up (xm_up (xm_up r (20, 0, 0) 8 (some (21, 8, 0))) (20, 0, 0) 9 (some (21, 9, 0))) (20, 0, 0) 10 (some (21, 10, 0))) (20, 0, 0) 11 (some (21, 11, 0))) (20, 0, 0) 12 (some (21, 12, 0))) (20, 0, 0) 13 (some (21, 13, 0))) (20, 0, 0) 14 (some (21, 14, 0))) (20, 0, 0) 15 (some (21, 15, 0))) (20, 0, 0) 16 (some (21, 16, 0))) (20, 0, 0) 17 (some (21, 17, 0))) (20, 0, 0) 18 (some (21, 18, 0))) (20, 0, 0) 19 (some (21, 19, 0))) (20, 0, 0) 20 (some (21, 20, 0))) (20, 0, 0) 24 (some (21, 24, 0))) (20, 0, 0) 27 (some (21, 27, 0))) (20, 0, 0) 28 (some (21, 28, 0))) (20, 0, 0) 29 (some (21, 29, 0))) (20, 0, 0) 30 (some (21, 30, 0)))) R
  refine pg_68_161 (en_ok (by decide +kernel)) ?_
  refine pg_68_164 rfl ?_
  refine pg_68_165 ?_
  refine pg_68_167 (n := 6) (rfl : (6 : Int32) = nI 6) (by decide) (en_a (a := (21, 32, 0)) (by decide +kernel)) (en_k (by decide +kernel)) ?_
  show xm_G (en 5 L) (d + 1) true 68 169 [some (xm_r (20, 0, 0)), some (xm_i x), some (xm_i k), none] [xm_r (21, 32, 0), xm_r (20, 0, 0)] ((165, 1352), (xm_up fi (20, 0, 0) 5 (65536 : Int32)), fl, (xm_up (xm_up (xm_up (xm_up (xm_up (xm_up (xm_up (xm_up (xm_up (xm_up (xm_up (xm_up (xm_up (xm_up (xm_up (xm_up (xm_up (xm_up (xm_up r (20, 0, 0) 8 (some (21, 8, 0))) (20, 0, 0) 9 (some (21, 9, 0))) (20, 0, 0) 10 (some (21, 10, 0))) (20, 0, 0) 11 (some (21, 11, 0))) (20, 0, 0) 12 (some (21, 12, 0))) (20, 0, 0) 13 (some (21, 13, 0))) (20, 0, 0) 14 (some (21, 14, 0))) (20, 0, 0) 15 (some (21, 15, 0))) (20, 0, 0) 16 (some (21, 16, 0))) (20, 0, 0) 17 (some (21, 17, 0))) (20, 0, 0) 18 (some (21, 18, 0))) (20, 0, 0) 19 (some (21, 19, 0))) (20, 0, 0) 20 (some (21, 20, 0))) (20, 0, 0) 24 (some (21, 24, 0))) (20, 0, 0) 27 (some (21, 27, 0))) (20, 0, 0) 28 (some (21, 28, 0))) (20, 0, 0) 29 (some (21, 29, 0))) (20, 0, 0) 30 (some (21, 30, 0))) (20, 0, 0) 31 (some (21, 31, 0)))) R
  refine pg_68_169 (en_ok (by decide +kernel)) ?_
  refine pg_68_172 rfl ?_
  refine pg_68_173 ?_
  refine pg_68_175 (n := 24) (rfl : (24 : Int32) = nI 24) (by decide) (en_a (a := (21, 33, 0)) (by decide +kernel)) (en_k (by decide +kernel)) ?_
  show xm_G (en 5 L) (d + 1) true 68 177 [some (xm_r (20, 0, 0)), some (xm_i x), some (xm_i k), none] [xm_r (21, 33, 0), xm_r (20, 0, 0)] ((166, 1376), (xm_up fi (20, 0, 0) 5 (65536 : Int32)), fl, (xm_up (xm_up (xm_up (xm_up (xm_up (xm_up (xm_up (xm_up (xm_up (xm_up (xm_up (xm_up (xm_up (xm_up (xm_up (xm_up (xm_up (xm_up (xm_up (xm_up r (20, 0, 0) 8 (some (21, 8, 0))) (20, 0, 0) 9 (some (21, 9, 0))) (20, 0, 0) 10 (some (21, 10, 0))) (20, 0, 0) 11 (some (21, 11, 0))) (20, 0, 0) 12 (some (21, 12, 0))) (20, 0, 0) 13 (some (21, 13, 0))) (20, 0, 0) 14 (some (21, 14, 0))) (20, 0, 0) 15 (some (21, 15, 0))) (20, 0, 0) 16 (some (21, 16, 0))) (20, 0, 0) 17 (some (21, 17, 0))) (20, 0, 0) 18 (some (21, 18, 0))) (20, 0, 0) 19 (some (21, 19, 0))) (20, 0, 0) 20 (some (21, 20, 0))) (20, 0, 0) 24 (some (21, 24, 0))) (20, 0, 0) 27 (some (21, 27, 0))) (20, 0, 0) 28 (some (21, 28, 0))) (20, 0, 0) 29 (some (21, 29, 0))) (20, 0, 0) 30 (some (21, 30, 0))) (20, 0, 0) 31 (some (21, 31, 0))) (20, 0, 0) 32 (some (21, 32, 0)))) R
  refine pg_68_177 (en_ok (by decide +kernel)) ?_
  refine pg_68_180 rfl ?_
  refine pg_68_181 ?_
  refine pg_68_184 (n := 144) (rfl : (144 : Int32) = nI 144) (by decide) (en_a (a := (21, 34, 0)) (by decide +kernel)) (en_k (by decide +kernel)) ?_
  show xm_G (en 5 L) (d + 1) true 68 186 [some (xm_r (20, 0, 0)), some (xm_i x), some (xm_i k), none] [xm_r (21, 34, 0), xm_r (20, 0, 0)] ((167, 1520), (xm_up fi (20, 0, 0) 5 (65536 : Int32)), fl, (xm_up (xm_up (xm_up (xm_up (xm_up (xm_up (xm_up (xm_up (xm_up (xm_up (xm_up (xm_up (xm_up (xm_up (xm_up (xm_up (xm_up (xm_up (xm_up (xm_up (xm_up r (20, 0, 0) 8 (some (21, 8, 0))) (20, 0, 0) 9 (some (21, 9, 0))) (20, 0, 0) 10 (some (21, 10, 0))) (20, 0, 0) 11 (some (21, 11, 0))) (20, 0, 0) 12 (some (21, 12, 0))) (20, 0, 0) 13 (some (21, 13, 0))) (20, 0, 0) 14 (some (21, 14, 0))) (20, 0, 0) 15 (some (21, 15, 0))) (20, 0, 0) 16 (some (21, 16, 0))) (20, 0, 0) 17 (some (21, 17, 0))) (20, 0, 0) 18 (some (21, 18, 0))) (20, 0, 0) 19 (some (21, 19, 0))) (20, 0, 0) 20 (some (21, 20, 0))) (20, 0, 0) 24 (some (21, 24, 0))) (20, 0, 0) 27 (some (21, 27, 0))) (20, 0, 0) 28 (some (21, 28, 0))) (20, 0, 0) 29 (some (21, 29, 0))) (20, 0, 0) 30 (some (21, 30, 0))) (20, 0, 0) 31 (some (21, 31, 0))) (20, 0, 0) 32 (some (21, 32, 0))) (20, 0, 0) 33 (some (21, 33, 0)))) R
  refine pg_68_186 (en_ok (by decide +kernel)) ?_
  refine pg_68_189 rfl ?_
  refine pg_68_190 ?_
  refine pg_68_193 (n := 144) (rfl : (144 : Int32) = nI 144) (by decide) (en_a (a := (21, 35, 0)) (by decide +kernel)) (en_k (by decide +kernel)) ?_
  show xm_G (en 5 L) (d + 1) true 68 195 [some (xm_r (20, 0, 0)), some (xm_i x), some (xm_i k), none] [xm_r (21, 35, 0), xm_r (20, 0, 0)] ((168, 1664), (xm_up fi (20, 0, 0) 5 (65536 : Int32)), fl, (xm_up (xm_up (xm_up (xm_up (xm_up (xm_up (xm_up (xm_up (xm_up (xm_up (xm_up (xm_up (xm_up (xm_up (xm_up (xm_up (xm_up (xm_up (xm_up (xm_up (xm_up (xm_up r (20, 0, 0) 8 (some (21, 8, 0))) (20, 0, 0) 9 (some (21, 9, 0))) (20, 0, 0) 10 (some (21, 10, 0))) (20, 0, 0) 11 (some (21, 11, 0))) (20, 0, 0) 12 (some (21, 12, 0))) (20, 0, 0) 13 (some (21, 13, 0))) (20, 0, 0) 14 (some (21, 14, 0))) (20, 0, 0) 15 (some (21, 15, 0))) (20, 0, 0) 16 (some (21, 16, 0))) (20, 0, 0) 17 (some (21, 17, 0))) (20, 0, 0) 18 (some (21, 18, 0))) (20, 0, 0) 19 (some (21, 19, 0))) (20, 0, 0) 20 (some (21, 20, 0))) (20, 0, 0) 24 (some (21, 24, 0))) (20, 0, 0) 27 (some (21, 27, 0))) (20, 0, 0) 28 (some (21, 28, 0))) (20, 0, 0) 29 (some (21, 29, 0))) (20, 0, 0) 30 (some (21, 30, 0))) (20, 0, 0) 31 (some (21, 31, 0))) (20, 0, 0) 32 (some (21, 32, 0))) (20, 0, 0) 33 (some (21, 33, 0))) (20, 0, 0) 34 (some (21, 34, 0)))) R
  refine pg_68_195 (en_ok (by decide +kernel)) ?_
  refine pg_68_198 rfl ?_
  refine pg_68_199 ?_
  refine pg_68_201 (n := 6) (rfl : (6 : Int32) = nI 6) (by decide) (en_a (a := (21, 37, 0)) (by decide +kernel)) (en_k (by decide +kernel)) ?_
  show xm_G (en 5 L) (d + 1) true 68 203 [some (xm_r (20, 0, 0)), some (xm_i x), some (xm_i k), none] [xm_r (21, 37, 0), xm_r (20, 0, 0)] ((169, 1670), (xm_up fi (20, 0, 0) 5 (65536 : Int32)), fl, (xm_up (xm_up (xm_up (xm_up (xm_up (xm_up (xm_up (xm_up (xm_up (xm_up (xm_up (xm_up (xm_up (xm_up (xm_up (xm_up (xm_up (xm_up (xm_up (xm_up (xm_up (xm_up (xm_up r (20, 0, 0) 8 (some (21, 8, 0))) (20, 0, 0) 9 (some (21, 9, 0))) (20, 0, 0) 10 (some (21, 10, 0))) (20, 0, 0) 11 (some (21, 11, 0))) (20, 0, 0) 12 (some (21, 12, 0))) (20, 0, 0) 13 (some (21, 13, 0))) (20, 0, 0) 14 (some (21, 14, 0))) (20, 0, 0) 15 (some (21, 15, 0))) (20, 0, 0) 16 (some (21, 16, 0))) (20, 0, 0) 17 (some (21, 17, 0))) (20, 0, 0) 18 (some (21, 18, 0))) (20, 0, 0) 19 (some (21, 19, 0))) (20, 0, 0) 20 (some (21, 20, 0))) (20, 0, 0) 24 (some (21, 24, 0))) (20, 0, 0) 27 (some (21, 27, 0))) (20, 0, 0) 28 (some (21, 28, 0))) (20, 0, 0) 29 (some (21, 29, 0))) (20, 0, 0) 30 (some (21, 30, 0))) (20, 0, 0) 31 (some (21, 31, 0))) (20, 0, 0) 32 (some (21, 32, 0))) (20, 0, 0) 33 (some (21, 33, 0))) (20, 0, 0) 34 (some (21, 34, 0))) (20, 0, 0) 35 (some (21, 35, 0)))) R
  refine pg_68_203 (en_ok (by decide +kernel)) ?_
  refine pg_68_206 rfl ?_
  refine pg_68_207 ?_
  refine pg_68_209 (n := 6) (rfl : (6 : Int32) = nI 6) (by decide) (en_a (a := (21, 38, 0)) (by decide +kernel)) (en_k (by decide +kernel)) ?_
  show xm_G (en 5 L) (d + 1) true 68 211 [some (xm_r (20, 0, 0)), some (xm_i x), some (xm_i k), none] [xm_r (21, 38, 0), xm_r (20, 0, 0)] ((170, 1676), (xm_up fi (20, 0, 0) 5 (65536 : Int32)), fl, (xm_up (xm_up (xm_up (xm_up (xm_up (xm_up (xm_up (xm_up (xm_up (xm_up (xm_up (xm_up (xm_up (xm_up (xm_up (xm_up (xm_up (xm_up (xm_up (xm_up (xm_up (xm_up (xm_up (xm_up r (20, 0, 0) 8 (some (21, 8, 0))) (20, 0, 0) 9 (some (21, 9, 0))) (20, 0, 0) 10 (some (21, 10, 0))) (20, 0, 0) 11 (some (21, 11, 0))) (20, 0, 0) 12 (some (21, 12, 0))) (20, 0, 0) 13 (some (21, 13, 0))) (20, 0, 0) 14 (some (21, 14, 0))) (20, 0, 0) 15 (some (21, 15, 0))) (20, 0, 0) 16 (some (21, 16, 0))) (20, 0, 0) 17 (some (21, 17, 0))) (20, 0, 0) 18 (some (21, 18, 0))) (20, 0, 0) 19 (some (21, 19, 0))) (20, 0, 0) 20 (some (21, 20, 0))) (20, 0, 0) 24 (some (21, 24, 0))) (20, 0, 0) 27 (some (21, 27, 0))) (20, 0, 0) 28 (some (21, 28, 0))) (20, 0, 0) 29 (some (21, 29, 0))) (20, 0, 0) 30 (some (21, 30, 0))) (20, 0, 0) 31 (some (21, 31, 0))) (20, 0, 0) 32 (some (21, 32, 0))) (20, 0, 0) 33 (some (21, 33, 0))) (20, 0, 0) 34 (some (21, 34, 0))) (20, 0, 0) 35 (some (21, 35, 0))) (20, 0, 0) 37 (some (21, 37, 0)))) R
  refine pg_68_211 (en_ok (by decide +kernel)) ?_
  refine pg_68_214 rfl ?_
  refine pg_68_215 rfl ?_
  refine pg_68_216 ?_
  suffices KJ : xm_G (en 5 L) (d + 1) true 68 231 [some (xm_r (20, 0, 0)), some (xm_i x), some (xm_i k), none] [xm_i (if x < (4 : Int32) then (4 : Int32) else (if x ≤ (6 : Int32) then x else (4 : Int32))), xm_r (20, 0, 0)] ((170, 1676), (xm_up fi (20, 0, 0) 5 (65536 : Int32)), fl, (xm_up (xm_up (xm_up (xm_up (xm_up (xm_up (xm_up (xm_up (xm_up (xm_up (xm_up (xm_up (xm_up (xm_up (xm_up (xm_up (xm_up (xm_up (xm_up (xm_up (xm_up (xm_up (xm_up (xm_up (xm_up r (20, 0, 0) 8 (some (21, 8, 0))) (20, 0, 0) 9 (some (21, 9, 0))) (20, 0, 0) 10 (some (21, 10, 0))) (20, 0, 0) 11 (some (21, 11, 0))) (20, 0, 0) 12 (some (21, 12, 0))) (20, 0, 0) 13 (some (21, 13, 0))) (20, 0, 0) 14 (some (21, 14, 0))) (20, 0, 0) 15 (some (21, 15, 0))) (20, 0, 0) 16 (some (21, 16, 0))) (20, 0, 0) 17 (some (21, 17, 0))) (20, 0, 0) 18 (some (21, 18, 0))) (20, 0, 0) 19 (some (21, 19, 0))) (20, 0, 0) 20 (some (21, 20, 0))) (20, 0, 0) 24 (some (21, 24, 0))) (20, 0, 0) 27 (some (21, 27, 0))) (20, 0, 0) 28 (some (21, 28, 0))) (20, 0, 0) 29 (some (21, 29, 0))) (20, 0, 0) 30 (some (21, 30, 0))) (20, 0, 0) 31 (some (21, 31, 0))) (20, 0, 0) 32 (some (21, 32, 0))) (20, 0, 0) 33 (some (21, 33, 0))) (20, 0, 0) 34 (some (21, 34, 0))) (20, 0, 0) 35 (some (21, 35, 0))) (20, 0, 0) 37 (some (21, 37, 0))) (20, 0, 0) 38 (some (21, 38, 0)))) R by
    refine pg_68_217 (fun hc1 => ?_) (fun hc2 => ?_)
    · refine pg_68_226 ?_
      refine pg_68_227 ?_
      repeat rw [if_pos hc1] at KJ
      repeat rw [if_pos hc1]
      exact KJ
    · refine pg_68_220 rfl ?_
      refine pg_68_221 ?_
      refine pg_68_223 (fun hc3 => ?_) (fun hc4 => ?_)
      · refine pg_68_230 rfl ?_
        repeat rw [if_neg hc2] at KJ
        repeat rw [if_pos hc3] at KJ
        repeat rw [if_neg hc2]
        repeat rw [if_pos hc3]
        exact KJ
      · refine pg_68_226 ?_
        refine pg_68_227 ?_
        repeat rw [if_neg hc2] at KJ
        repeat rw [if_neg hc4] at KJ
        repeat rw [if_neg hc2]
        repeat rw [if_neg hc4]
        exact KJ
  refine go_top (y := (5 : Int32)) hM ?_
  refine pg_68_231 (en_ok (by decide +kernel)) ?_
  refine pg_68_234 rfl ?_
  refine pg_68_235 rfl ?_
  refine pg_68_236 ?_
  suffices KJ : xm_G (en 5 L) (d + 1) true 68 251 [some (xm_r (20, 0, 0)), some (xm_i x), some (xm_i k), none] [xm_i (if k < (1 : Int32) then (3 : Int32) else (if k ≤ (8 : Int32) then k else (3 : Int32))), xm_r (20, 0, 0)] ((170, 1676), (xm_up (xm_up fi (20, 0, 0) 5 (65536 : Int32)) (20, 0, 0) 1 (5 : Int32)), fl, (xm_up (xm_up (xm_up (xm_up (xm_up (xm_up (xm_up (xm_up (xm_up (xm_up (xm_up (xm_up (xm_up (xm_up (xm_up (xm_up (xm_up (xm_up (xm_up (xm_up (xm_up (xm_up (xm_up (xm_up (xm_up r (20, 0, 0) 8 (some (21, 8, 0))) (20, 0, 0) 9 (some (21, 9, 0))) (20, 0, 0) 10 (some (21, 10, 0))) (20, 0, 0) 11 (some (21, 11, 0))) (20, 0, 0) 12 (some (21, 12, 0))) (20, 0, 0) 13 (some (21, 13, 0))) (20, 0, 0) 14 (some (21, 14, 0))) (20, 0, 0) 15 (some (21, 15, 0))) (20, 0, 0) 16 (some (21, 16, 0))) (20, 0, 0) 17 (some (21, 17, 0))) (20, 0, 0) 18 (some (21, 18, 0))) (20, 0, 0) 19 (some (21, 19, 0))) (20, 0, 0) 20 (some (21, 20, 0))) (20, 0, 0) 24 (some (21, 24, 0))) (20, 0, 0) 27 (some (21, 27, 0))) (20, 0, 0) 28 (some (21, 28, 0))) (20, 0, 0) 29 (some (21, 29, 0))) (20, 0, 0) 30 (some (21, 30, 0))) (20, 0, 0) 31 (some (21, 31, 0))) (20, 0, 0) 32 (some (21, 32, 0))) (20, 0, 0) 33 (some (21, 33, 0))) (20, 0, 0) 34 (some (21, 34, 0))) (20, 0, 0) 35 (some (21, 35, 0))) (20, 0, 0) 37 (some (21, 37, 0))) (20, 0, 0) 38 (some (21, 38, 0)))) R by
    refine pg_68_237 (fun hc5 => ?_) (fun hc6 => ?_)
    · refine pg_68_246 ?_
      refine pg_68_247 ?_
      repeat rw [if_pos hc5] at KJ
      repeat rw [if_pos hc5]
      exact KJ
    · refine pg_68_240 rfl ?_
      refine pg_68_241 ?_
      refine pg_68_243 (fun hc7 => ?_) (fun hc8 => ?_)
      · refine pg_68_250 rfl ?_
        repeat rw [if_neg hc6] at KJ
        repeat rw [if_pos hc7] at KJ
        repeat rw [if_neg hc6]
        repeat rw [if_pos hc7]
        exact KJ
      · refine pg_68_246 ?_
        refine pg_68_247 ?_
        repeat rw [if_neg hc6] at KJ
        repeat rw [if_neg hc8] at KJ
        repeat rw [if_neg hc6]
        repeat rw [if_neg hc8]
        exact KJ
  refine pg_68_251 (en_ok (by decide +kernel)) ?_
  refine pg_68_254 ?_
  refine pg_68_255 (lv' := [some (xm_r (20, 0, 0)), some (xm_i x), some (xm_i k), some (xm_i (0 : Int32))]) rfl ?_
  refine pg_68_256 rfl ?_
  refine pg_68_257 ?_
  refine pg_68_259 (fun hc => absurd hc (by decide)) (fun _ => ?_)
  refine pg_68_262 rfl ?_
  refine pg_68_263 (en_ok (by decide +kernel)) rfl ?_
  refine pg_68_266 rfl ?_
  refine pg_68_267 ?_
  refine pg_68_268 (en_ok (s := 36) (by decide +kernel)) (i := 0) (rfl : (0 : Int32) = nI 0) (by omega) (by omega) (Or.inr rfl) ?_
  refine pg_68_269 (y := (1 : Int32)) (lv' := [some (xm_r (20, 0, 0)), some (xm_i x), some (xm_i k), some (xm_i (1 : Int32))]) rfl (by decide) rfl ?_
  refine pg_68_272 ?_
  refine pg_68_256 rfl ?_
  refine pg_68_257 ?_
  refine pg_68_259 (fun hc => absurd hc (by decide)) (fun _ => ?_)
  refine pg_68_262 rfl ?_
  refine pg_68_263 (en_ok (by decide +kernel)) rfl ?_
  refine pg_68_266 rfl ?_
  refine pg_68_267 ?_
  refine pg_68_268 (en_ok (s := 36) (by decide +kernel)) (i := 1) (rfl : (1 : Int32) = nI 1) (by omega) (by omega) (Or.inr rfl) ?_
  refine pg_68_269 (y := (2 : Int32)) (lv' := [some (xm_r (20, 0, 0)), some (xm_i x), some (xm_i k), some (xm_i (2 : Int32))]) rfl (by decide) rfl ?_
  refine pg_68_272 ?_
  refine pg_68_256 rfl ?_
  refine pg_68_257 ?_
  refine pg_68_259 (fun hc => absurd hc (by decide)) (fun _ => ?_)
  refine pg_68_262 rfl ?_
  refine pg_68_263 (en_ok (by decide +kernel)) rfl ?_
  refine pg_68_266 rfl ?_
  refine pg_68_267 ?_
  refine pg_68_268 (en_ok (s := 36) (by decide +kernel)) (i := 2) (rfl : (2 : Int32) = nI 2) (by omega) (by omega) (Or.inr rfl) ?_
  refine pg_68_269 (y := (3 : Int32)) (lv' := [some (xm_r (20, 0, 0)), some (xm_i x), some (xm_i k), some (xm_i (3 : Int32))]) rfl (by decide) rfl ?_
  refine pg_68_272 ?_
  refine pg_68_256 rfl ?_
  refine pg_68_257 ?_
  refine pg_68_259 (fun hc => absurd hc (by decide)) (fun _ => ?_)
  refine pg_68_262 rfl ?_
  refine pg_68_263 (en_ok (by decide +kernel)) rfl ?_
  refine pg_68_266 rfl ?_
  refine pg_68_267 ?_
  refine pg_68_268 (en_ok (s := 36) (by decide +kernel)) (i := 3) (rfl : (3 : Int32) = nI 3) (by omega) (by omega) (Or.inr rfl) ?_
  refine pg_68_269 (y := (4 : Int32)) (lv' := [some (xm_r (20, 0, 0)), some (xm_i x), some (xm_i k), some (xm_i (4 : Int32))]) rfl (by decide) rfl ?_
  refine pg_68_272 ?_
  refine pg_68_256 rfl ?_
  refine pg_68_257 ?_
  refine pg_68_259 (fun hc => absurd hc (by decide)) (fun _ => ?_)
  refine pg_68_262 rfl ?_
  refine pg_68_263 (en_ok (by decide +kernel)) rfl ?_
  refine pg_68_266 rfl ?_
  refine pg_68_267 ?_
  refine pg_68_268 (en_ok (s := 36) (by decide +kernel)) (i := 4) (rfl : (4 : Int32) = nI 4) (by omega) (by omega) (Or.inr rfl) ?_
  refine pg_68_269 (y := (5 : Int32)) (lv' := [some (xm_r (20, 0, 0)), some (xm_i x), some (xm_i k), some (xm_i (5 : Int32))]) rfl (by decide) rfl ?_
  refine pg_68_272 ?_
  refine pg_68_256 rfl ?_
  refine pg_68_257 ?_
  refine pg_68_259 (fun hc => absurd hc (by decide)) (fun _ => ?_)
  refine pg_68_262 rfl ?_
  refine pg_68_263 (en_ok (by decide +kernel)) rfl ?_
  refine pg_68_266 rfl ?_
  refine pg_68_267 ?_
  refine pg_68_268 (en_ok (s := 36) (by decide +kernel)) (i := 5) (rfl : (5 : Int32) = nI 5) (by omega) (by omega) (Or.inr rfl) ?_
  refine pg_68_269 (y := (6 : Int32)) (lv' := [some (xm_r (20, 0, 0)), some (xm_i x), some (xm_i k), some (xm_i (6 : Int32))]) rfl (by decide) rfl ?_
  refine pg_68_272 ?_
  refine pg_68_256 rfl ?_
  refine pg_68_257 ?_
  refine pg_68_259 (fun hc => absurd hc (by decide)) (fun _ => ?_)
  refine pg_68_262 rfl ?_
  refine pg_68_263 (en_ok (by decide +kernel)) rfl ?_
  refine pg_68_266 rfl ?_
  refine pg_68_267 ?_
  refine pg_68_268 (en_ok (s := 36) (by decide +kernel)) (i := 6) (rfl : (6 : Int32) = nI 6) (by omega) (by omega) (Or.inr rfl) ?_
  refine pg_68_269 (y := (7 : Int32)) (lv' := [some (xm_r (20, 0, 0)), some (xm_i x), some (xm_i k), some (xm_i (7 : Int32))]) rfl (by decide) rfl ?_
  refine pg_68_272 ?_
  refine pg_68_256 rfl ?_
  refine pg_68_257 ?_
  refine pg_68_259 (fun hc => absurd hc (by decide)) (fun _ => ?_)
  refine pg_68_262 rfl ?_
  refine pg_68_263 (en_ok (by decide +kernel)) rfl ?_
  refine pg_68_266 rfl ?_
  refine pg_68_267 ?_
  refine pg_68_268 (en_ok (s := 36) (by decide +kernel)) (i := 7) (rfl : (7 : Int32) = nI 7) (by omega) (by omega) (Or.inr rfl) ?_
  refine pg_68_269 (y := (8 : Int32)) (lv' := [some (xm_r (20, 0, 0)), some (xm_i x), some (xm_i k), some (xm_i (8 : Int32))]) rfl (by decide) rfl ?_
  refine pg_68_272 ?_
  refine pg_68_256 rfl ?_
  refine pg_68_257 ?_
  refine pg_68_259 (fun hc => absurd hc (by decide)) (fun _ => ?_)
  refine pg_68_262 rfl ?_
  refine pg_68_263 (en_ok (by decide +kernel)) rfl ?_
  refine pg_68_266 rfl ?_
  refine pg_68_267 ?_
  refine pg_68_268 (en_ok (s := 36) (by decide +kernel)) (i := 8) (rfl : (8 : Int32) = nI 8) (by omega) (by omega) (Or.inr rfl) ?_
  refine pg_68_269 (y := (9 : Int32)) (lv' := [some (xm_r (20, 0, 0)), some (xm_i x), some (xm_i k), some (xm_i (9 : Int32))]) rfl (by decide) rfl ?_
  refine pg_68_272 ?_
  refine pg_68_256 rfl ?_
  refine pg_68_257 ?_
  refine pg_68_259 (fun hc => absurd hc (by decide)) (fun _ => ?_)
  refine pg_68_262 rfl ?_
  refine pg_68_263 (en_ok (by decide +kernel)) rfl ?_
  refine pg_68_266 rfl ?_
  refine pg_68_267 ?_
  refine pg_68_268 (en_ok (s := 36) (by decide +kernel)) (i := 9) (rfl : (9 : Int32) = nI 9) (by omega) (by omega) (Or.inr rfl) ?_
  refine pg_68_269 (y := (10 : Int32)) (lv' := [some (xm_r (20, 0, 0)), some (xm_i x), some (xm_i k), some (xm_i (10 : Int32))]) rfl (by decide) rfl ?_
  refine pg_68_272 ?_
  refine pg_68_256 rfl ?_
  refine pg_68_257 ?_
  refine pg_68_259 (fun hc => absurd hc (by decide)) (fun _ => ?_)
  refine pg_68_262 rfl ?_
  refine pg_68_263 (en_ok (by decide +kernel)) rfl ?_
  refine pg_68_266 rfl ?_
  refine pg_68_267 ?_
  refine pg_68_268 (en_ok (s := 36) (by decide +kernel)) (i := 10) (rfl : (10 : Int32) = nI 10) (by omega) (by omega) (Or.inr rfl) ?_
  refine pg_68_269 (y := (11 : Int32)) (lv' := [some (xm_r (20, 0, 0)), some (xm_i x), some (xm_i k), some (xm_i (11 : Int32))]) rfl (by decide) rfl ?_
  refine pg_68_272 ?_
  refine pg_68_256 rfl ?_
  refine pg_68_257 ?_
  refine pg_68_259 (fun hc => absurd hc (by decide)) (fun _ => ?_)
  refine pg_68_262 rfl ?_
  refine pg_68_263 (en_ok (by decide +kernel)) rfl ?_
  refine pg_68_266 rfl ?_
  refine pg_68_267 ?_
  refine pg_68_268 (en_ok (s := 36) (by decide +kernel)) (i := 11) (rfl : (11 : Int32) = nI 11) (by omega) (by omega) (Or.inr rfl) ?_
  refine pg_68_269 (y := (12 : Int32)) (lv' := [some (xm_r (20, 0, 0)), some (xm_i x), some (xm_i k), some (xm_i (12 : Int32))]) rfl (by decide) rfl ?_
  refine pg_68_272 ?_
  refine pg_68_256 rfl ?_
  refine pg_68_257 ?_
  refine pg_68_259 (fun hc => absurd hc (by decide)) (fun _ => ?_)
  refine pg_68_262 rfl ?_
  refine pg_68_263 (en_ok (by decide +kernel)) rfl ?_
  refine pg_68_266 rfl ?_
  refine pg_68_267 ?_
  refine pg_68_268 (en_ok (s := 36) (by decide +kernel)) (i := 12) (rfl : (12 : Int32) = nI 12) (by omega) (by omega) (Or.inr rfl) ?_
  refine pg_68_269 (y := (13 : Int32)) (lv' := [some (xm_r (20, 0, 0)), some (xm_i x), some (xm_i k), some (xm_i (13 : Int32))]) rfl (by decide) rfl ?_
  refine pg_68_272 ?_
  refine pg_68_256 rfl ?_
  refine pg_68_257 ?_
  refine pg_68_259 (fun hc => absurd hc (by decide)) (fun _ => ?_)
  refine pg_68_262 rfl ?_
  refine pg_68_263 (en_ok (by decide +kernel)) rfl ?_
  refine pg_68_266 rfl ?_
  refine pg_68_267 ?_
  refine pg_68_268 (en_ok (s := 36) (by decide +kernel)) (i := 13) (rfl : (13 : Int32) = nI 13) (by omega) (by omega) (Or.inr rfl) ?_
  refine pg_68_269 (y := (14 : Int32)) (lv' := [some (xm_r (20, 0, 0)), some (xm_i x), some (xm_i k), some (xm_i (14 : Int32))]) rfl (by decide) rfl ?_
  refine pg_68_272 ?_
  refine pg_68_256 rfl ?_
  refine pg_68_257 ?_
  refine pg_68_259 (fun hc => absurd hc (by decide)) (fun _ => ?_)
  refine pg_68_262 rfl ?_
  refine pg_68_263 (en_ok (by decide +kernel)) rfl ?_
  refine pg_68_266 rfl ?_
  refine pg_68_267 ?_
  refine pg_68_268 (en_ok (s := 36) (by decide +kernel)) (i := 14) (rfl : (14 : Int32) = nI 14) (by omega) (by omega) (Or.inr rfl) ?_
  refine pg_68_269 (y := (15 : Int32)) (lv' := [some (xm_r (20, 0, 0)), some (xm_i x), some (xm_i k), some (xm_i (15 : Int32))]) rfl (by decide) rfl ?_
  refine pg_68_272 ?_
  refine pg_68_256 rfl ?_
  refine pg_68_257 ?_
  refine pg_68_259 (fun hc => absurd hc (by decide)) (fun _ => ?_)
  refine pg_68_262 rfl ?_
  refine pg_68_263 (en_ok (by decide +kernel)) rfl ?_
  refine pg_68_266 rfl ?_
  refine pg_68_267 ?_
  refine pg_68_268 (en_ok (s := 36) (by decide +kernel)) (i := 15) (rfl : (15 : Int32) = nI 15) (by omega) (by omega) (Or.inr rfl) ?_
  refine pg_68_269 (y := (16 : Int32)) (lv' := [some (xm_r (20, 0, 0)), some (xm_i x), some (xm_i k), some (xm_i (16 : Int32))]) rfl (by decide) rfl ?_
  refine pg_68_272 ?_
  refine pg_68_256 rfl ?_
  refine pg_68_257 ?_
  refine pg_68_259 (fun hc => absurd hc (by decide)) (fun _ => ?_)
  refine pg_68_262 rfl ?_
  refine pg_68_263 (en_ok (by decide +kernel)) rfl ?_
  refine pg_68_266 rfl ?_
  refine pg_68_267 ?_
  refine pg_68_268 (en_ok (s := 36) (by decide +kernel)) (i := 16) (rfl : (16 : Int32) = nI 16) (by omega) (by omega) (Or.inr rfl) ?_
  refine pg_68_269 (y := (17 : Int32)) (lv' := [some (xm_r (20, 0, 0)), some (xm_i x), some (xm_i k), some (xm_i (17 : Int32))]) rfl (by decide) rfl ?_
  refine pg_68_272 ?_
  refine pg_68_256 rfl ?_
  refine pg_68_257 ?_
  refine pg_68_259 (fun hc => absurd hc (by decide)) (fun _ => ?_)
  refine pg_68_262 rfl ?_
  refine pg_68_263 (en_ok (by decide +kernel)) rfl ?_
  refine pg_68_266 rfl ?_
  refine pg_68_267 ?_
  refine pg_68_268 (en_ok (s := 36) (by decide +kernel)) (i := 17) (rfl : (17 : Int32) = nI 17) (by omega) (by omega) (Or.inr rfl) ?_
  refine pg_68_269 (y := (18 : Int32)) (lv' := [some (xm_r (20, 0, 0)), some (xm_i x), some (xm_i k), some (xm_i (18 : Int32))]) rfl (by decide) rfl ?_
  refine pg_68_272 ?_
  refine pg_68_256 rfl ?_
  refine pg_68_257 ?_
  refine pg_68_259 (fun hc => absurd hc (by decide)) (fun _ => ?_)
  refine pg_68_262 rfl ?_
  refine pg_68_263 (en_ok (by decide +kernel)) rfl ?_
  refine pg_68_266 rfl ?_
  refine pg_68_267 ?_
  refine pg_68_268 (en_ok (s := 36) (by decide +kernel)) (i := 18) (rfl : (18 : Int32) = nI 18) (by omega) (by omega) (Or.inr rfl) ?_
  refine pg_68_269 (y := (19 : Int32)) (lv' := [some (xm_r (20, 0, 0)), some (xm_i x), some (xm_i k), some (xm_i (19 : Int32))]) rfl (by decide) rfl ?_
  refine pg_68_272 ?_
  refine pg_68_256 rfl ?_
  refine pg_68_257 ?_
  refine pg_68_259 (fun hc => absurd hc (by decide)) (fun _ => ?_)
  refine pg_68_262 rfl ?_
  refine pg_68_263 (en_ok (by decide +kernel)) rfl ?_
  refine pg_68_266 rfl ?_
  refine pg_68_267 ?_
  refine pg_68_268 (en_ok (s := 36) (by decide +kernel)) (i := 19) (rfl : (19 : Int32) = nI 19) (by omega) (by omega) (Or.inr rfl) ?_
  refine pg_68_269 (y := (20 : Int32)) (lv' := [some (xm_r (20, 0, 0)), some (xm_i x), some (xm_i k), some (xm_i (20 : Int32))]) rfl (by decide) rfl ?_
  refine pg_68_272 ?_
  refine pg_68_256 rfl ?_
  refine pg_68_257 ?_
  refine pg_68_259 (fun hc => absurd hc (by decide)) (fun _ => ?_)
  refine pg_68_262 rfl ?_
  refine pg_68_263 (en_ok (by decide +kernel)) rfl ?_
  refine pg_68_266 rfl ?_
  refine pg_68_267 ?_
  refine pg_68_268 (en_ok (s := 36) (by decide +kernel)) (i := 20) (rfl : (20 : Int32) = nI 20) (by omega) (by omega) (Or.inr rfl) ?_
  refine pg_68_269 (y := (21 : Int32)) (lv' := [some (xm_r (20, 0, 0)), some (xm_i x), some (xm_i k), some (xm_i (21 : Int32))]) rfl (by decide) rfl ?_
  refine pg_68_272 ?_
  refine pg_68_256 rfl ?_
  refine pg_68_257 ?_
  refine pg_68_259 (fun hc => absurd hc (by decide)) (fun _ => ?_)
  refine pg_68_262 rfl ?_
  refine pg_68_263 (en_ok (by decide +kernel)) rfl ?_
  refine pg_68_266 rfl ?_
  refine pg_68_267 ?_
  refine pg_68_268 (en_ok (s := 36) (by decide +kernel)) (i := 21) (rfl : (21 : Int32) = nI 21) (by omega) (by omega) (Or.inr rfl) ?_
  refine pg_68_269 (y := (22 : Int32)) (lv' := [some (xm_r (20, 0, 0)), some (xm_i x), some (xm_i k), some (xm_i (22 : Int32))]) rfl (by decide) rfl ?_
  refine pg_68_272 ?_
  refine pg_68_256 rfl ?_
  refine pg_68_257 ?_
  refine pg_68_259 (fun hc => absurd hc (by decide)) (fun _ => ?_)
  refine pg_68_262 rfl ?_
  refine pg_68_263 (en_ok (by decide +kernel)) rfl ?_
  refine pg_68_266 rfl ?_
  refine pg_68_267 ?_
  refine pg_68_268 (en_ok (s := 36) (by decide +kernel)) (i := 22) (rfl : (22 : Int32) = nI 22) (by omega) (by omega) (Or.inr rfl) ?_
  refine pg_68_269 (y := (23 : Int32)) (lv' := [some (xm_r (20, 0, 0)), some (xm_i x), some (xm_i k), some (xm_i (23 : Int32))]) rfl (by decide) rfl ?_
  refine pg_68_272 ?_
  refine pg_68_256 rfl ?_
  refine pg_68_257 ?_
  refine pg_68_259 (fun hc => absurd hc (by decide)) (fun _ => ?_)
  refine pg_68_262 rfl ?_
  refine pg_68_263 (en_ok (by decide +kernel)) rfl ?_
  refine pg_68_266 rfl ?_
  refine pg_68_267 ?_
  refine pg_68_268 (en_ok (s := 36) (by decide +kernel)) (i := 23) (rfl : (23 : Int32) = nI 23) (by omega) (by omega) (Or.inr rfl) ?_
  refine pg_68_269 (y := (24 : Int32)) (lv' := [some (xm_r (20, 0, 0)), some (xm_i x), some (xm_i k), some (xm_i (24 : Int32))]) rfl (by decide) rfl ?_
  refine pg_68_272 ?_
  refine pg_68_256 rfl ?_
  refine pg_68_257 ?_
  refine pg_68_259 (fun hc => absurd hc (by decide)) (fun _ => ?_)
  refine pg_68_262 rfl ?_
  refine pg_68_263 (en_ok (by decide +kernel)) rfl ?_
  refine pg_68_266 rfl ?_
  refine pg_68_267 ?_
  refine pg_68_268 (en_ok (s := 36) (by decide +kernel)) (i := 24) (rfl : (24 : Int32) = nI 24) (by omega) (by omega) (Or.inr rfl) ?_
  refine pg_68_269 (y := (25 : Int32)) (lv' := [some (xm_r (20, 0, 0)), some (xm_i x), some (xm_i k), some (xm_i (25 : Int32))]) rfl (by decide) rfl ?_
  refine pg_68_272 ?_
  refine pg_68_256 rfl ?_
  refine pg_68_257 ?_
  refine pg_68_259 (fun hc => absurd hc (by decide)) (fun _ => ?_)
  refine pg_68_262 rfl ?_
  refine pg_68_263 (en_ok (by decide +kernel)) rfl ?_
  refine pg_68_266 rfl ?_
  refine pg_68_267 ?_
  refine pg_68_268 (en_ok (s := 36) (by decide +kernel)) (i := 25) (rfl : (25 : Int32) = nI 25) (by omega) (by omega) (Or.inr rfl) ?_
  refine pg_68_269 (y := (26 : Int32)) (lv' := [some (xm_r (20, 0, 0)), some (xm_i x), some (xm_i k), some (xm_i (26 : Int32))]) rfl (by decide) rfl ?_
  refine pg_68_272 ?_
  refine pg_68_256 rfl ?_
  refine pg_68_257 ?_
  refine pg_68_259 (fun hc => absurd hc (by decide)) (fun _ => ?_)
  refine pg_68_262 rfl ?_
  refine pg_68_263 (en_ok (by decide +kernel)) rfl ?_
  refine pg_68_266 rfl ?_
  refine pg_68_267 ?_
  refine pg_68_268 (en_ok (s := 36) (by decide +kernel)) (i := 26) (rfl : (26 : Int32) = nI 26) (by omega) (by omega) (Or.inr rfl) ?_
  refine pg_68_269 (y := (27 : Int32)) (lv' := [some (xm_r (20, 0, 0)), some (xm_i x), some (xm_i k), some (xm_i (27 : Int32))]) rfl (by decide) rfl ?_
  refine pg_68_272 ?_
  refine pg_68_256 rfl ?_
  refine pg_68_257 ?_
  refine pg_68_259 (fun hc => absurd hc (by decide)) (fun _ => ?_)
  refine pg_68_262 rfl ?_
  refine pg_68_263 (en_ok (by decide +kernel)) rfl ?_
  refine pg_68_266 rfl ?_
  refine pg_68_267 ?_
  refine pg_68_268 (en_ok (s := 36) (by decide +kernel)) (i := 27) (rfl : (27 : Int32) = nI 27) (by omega) (by omega) (Or.inr rfl) ?_
  refine pg_68_269 (y := (28 : Int32)) (lv' := [some (xm_r (20, 0, 0)), some (xm_i x), some (xm_i k), some (xm_i (28 : Int32))]) rfl (by decide) rfl ?_
  refine pg_68_272 ?_
  refine pg_68_256 rfl ?_
  refine pg_68_257 ?_
  refine pg_68_259 (fun hc => absurd hc (by decide)) (fun _ => ?_)
  refine pg_68_262 rfl ?_
  refine pg_68_263 (en_ok (by decide +kernel)) rfl ?_
  refine pg_68_266 rfl ?_
  refine pg_68_267 ?_
  refine pg_68_268 (en_ok (s := 36) (by decide +kernel)) (i := 28) (rfl : (28 : Int32) = nI 28) (by omega) (by omega) (Or.inr rfl) ?_
  refine pg_68_269 (y := (29 : Int32)) (lv' := [some (xm_r (20, 0, 0)), some (xm_i x), some (xm_i k), some (xm_i (29 : Int32))]) rfl (by decide) rfl ?_
  refine pg_68_272 ?_
  refine pg_68_256 rfl ?_
  refine pg_68_257 ?_
  refine pg_68_259 (fun hc => absurd hc (by decide)) (fun _ => ?_)
  refine pg_68_262 rfl ?_
  refine pg_68_263 (en_ok (by decide +kernel)) rfl ?_
  refine pg_68_266 rfl ?_
  refine pg_68_267 ?_
  refine pg_68_268 (en_ok (s := 36) (by decide +kernel)) (i := 29) (rfl : (29 : Int32) = nI 29) (by omega) (by omega) (Or.inr rfl) ?_
  refine pg_68_269 (y := (30 : Int32)) (lv' := [some (xm_r (20, 0, 0)), some (xm_i x), some (xm_i k), some (xm_i (30 : Int32))]) rfl (by decide) rfl ?_
  refine pg_68_272 ?_
  refine pg_68_256 rfl ?_
  refine pg_68_257 ?_
  refine pg_68_259 (fun hc => absurd hc (by decide)) (fun _ => ?_)
  refine pg_68_262 rfl ?_
  refine pg_68_263 (en_ok (by decide +kernel)) rfl ?_
  refine pg_68_266 rfl ?_
  refine pg_68_267 ?_
  refine pg_68_268 (en_ok (s := 36) (by decide +kernel)) (i := 30) (rfl : (30 : Int32) = nI 30) (by omega) (by omega) (Or.inr rfl) ?_
  refine pg_68_269 (y := (31 : Int32)) (lv' := [some (xm_r (20, 0, 0)), some (xm_i x), some (xm_i k), some (xm_i (31 : Int32))]) rfl (by decide) rfl ?_
  refine pg_68_272 ?_
  refine pg_68_256 rfl ?_
  refine pg_68_257 ?_
  refine pg_68_259 (fun hc => absurd hc (by decide)) (fun _ => ?_)
  refine pg_68_262 rfl ?_
  refine pg_68_263 (en_ok (by decide +kernel)) rfl ?_
  refine pg_68_266 rfl ?_
  refine pg_68_267 ?_
  refine pg_68_268 (en_ok (s := 36) (by decide +kernel)) (i := 31) (rfl : (31 : Int32) = nI 31) (by omega) (by omega) (Or.inr rfl) ?_
  refine pg_68_269 (y := (32 : Int32)) (lv' := [some (xm_r (20, 0, 0)), some (xm_i x), some (xm_i k), some (xm_i (32 : Int32))]) rfl (by decide) rfl ?_
  refine pg_68_272 ?_
  refine pg_68_256 rfl ?_
  refine pg_68_257 ?_
  refine pg_68_259 (fun hc => absurd hc (by decide)) (fun _ => ?_)
  refine pg_68_262 rfl ?_
  refine pg_68_263 (en_ok (by decide +kernel)) rfl ?_
  refine pg_68_266 rfl ?_
  refine pg_68_267 ?_
  refine pg_68_268 (en_ok (s := 36) (by decide +kernel)) (i := 32) (rfl : (32 : Int32) = nI 32) (by omega) (by omega) (Or.inr rfl) ?_
  refine pg_68_269 (y := (33 : Int32)) (lv' := [some (xm_r (20, 0, 0)), some (xm_i x), some (xm_i k), some (xm_i (33 : Int32))]) rfl (by decide) rfl ?_
  refine pg_68_272 ?_
  refine pg_68_256 rfl ?_
  refine pg_68_257 ?_
  refine pg_68_259 (fun hc => absurd hc (by decide)) (fun _ => ?_)
  refine pg_68_262 rfl ?_
  refine pg_68_263 (en_ok (by decide +kernel)) rfl ?_
  refine pg_68_266 rfl ?_
  refine pg_68_267 ?_
  refine pg_68_268 (en_ok (s := 36) (by decide +kernel)) (i := 33) (rfl : (33 : Int32) = nI 33) (by omega) (by omega) (Or.inr rfl) ?_
  refine pg_68_269 (y := (34 : Int32)) (lv' := [some (xm_r (20, 0, 0)), some (xm_i x), some (xm_i k), some (xm_i (34 : Int32))]) rfl (by decide) rfl ?_
  refine pg_68_272 ?_
  refine pg_68_256 rfl ?_
  refine pg_68_257 ?_
  refine pg_68_259 (fun hc => absurd hc (by decide)) (fun _ => ?_)
  refine pg_68_262 rfl ?_
  refine pg_68_263 (en_ok (by decide +kernel)) rfl ?_
  refine pg_68_266 rfl ?_
  refine pg_68_267 ?_
  refine pg_68_268 (en_ok (s := 36) (by decide +kernel)) (i := 34) (rfl : (34 : Int32) = nI 34) (by omega) (by omega) (Or.inr rfl) ?_
  refine pg_68_269 (y := (35 : Int32)) (lv' := [some (xm_r (20, 0, 0)), some (xm_i x), some (xm_i k), some (xm_i (35 : Int32))]) rfl (by decide) rfl ?_
  refine pg_68_272 ?_
  refine pg_68_256 rfl ?_
  refine pg_68_257 ?_
  refine pg_68_259 (fun hc => absurd hc (by decide)) (fun _ => ?_)
  refine pg_68_262 rfl ?_
  refine pg_68_263 (en_ok (by decide +kernel)) rfl ?_
  refine pg_68_266 rfl ?_
  refine pg_68_267 ?_
  refine pg_68_268 (en_ok (s := 36) (by decide +kernel)) (i := 35) (rfl : (35 : Int32) = nI 35) (by omega) (by omega) (Or.inr rfl) ?_
  refine pg_68_269 (y := (36 : Int32)) (lv' := [some (xm_r (20, 0, 0)), some (xm_i x), some (xm_i k), some (xm_i (36 : Int32))]) rfl (by decide) rfl ?_
  refine pg_68_272 ?_
  refine pg_68_256 rfl ?_
  refine pg_68_257 ?_
  refine pg_68_259 (fun _ => ?_) (fun hc => absurd (by decide) hc)
  exact go_eq hR.symm (pg_68_275)
def cr_36_6_0 (r : xm_I → Nat → Option xm_I) : xm_I → Nat → Option xm_I := (xm_up (xm_up (xm_up r (2, 0, 0) 0 (some (3, 0, 0))) (2, 0, 0) 1 (some (4, 0, 0))) (2, 0, 0) 2 (some (5, 0, 0)))
set_option maxRecDepth 8000 in
theorem ct_36_6_0 {L : Nat} {fi : FI} {fl : FL} {r : xm_I → Nat → Option xm_I} {d : Nat} : xm_C (en 6 L) (d + 2) true 36 [xm_r (2, 0, 0), xm_i (6 : Int32)] ((3, 23), fi, fl, r) (.inl none, ((6, 42), fi, fl, cr_36_6_0 r)) := by
  suffices key : ∀ (E : xm_E) (R : xm_O), E = en 6 L → ((.inl none, ((6, 42), fi, fl, cr_36_6_0 r)) : xm_O) = R → xm_G (en 6 L) (d + 1) true 36 0 [some (xm_r (2, 0, 0)), some (xm_i (6 : Int32))] [] ((3, 23), fi, fl, r) R from go_inr (by decide) (Nat.le_of_ble_eq_true rfl) (key _ _ rfl rfl)
  intro E R hE hR
  refine pg_36_0 rfl ?_
  refine pg_36_1 (Nat.le_of_ble_eq_true rfl) ?_
  refine pg_36_4 rfl ?_
  refine pg_36_5 rfl ?_
  refine pg_36_6 (n := 6) (rfl : (6 : Int32) = nI 6) (by decide) (en_a (a := (3, 0, 0)) (by decide +kernel)) (en_k (by decide +kernel)) ?_
  show xm_G (en 6 L) (d + 1) true 36 8 [some (xm_r (2, 0, 0)), some (xm_i (6 : Int32))] [xm_r (3, 0, 0), xm_r (2, 0, 0)] ((4, 29), fi, fl, r) R
  refine pg_36_8 (en_ok (by decide +kernel)) ?_
  refine pg_36_11 rfl ?_
  refine pg_36_12 rfl ?_
  refine pg_36_13 (n := 6) (rfl : (6 : Int32) = nI 6) (by decide) (en_a (a := (4, 0, 0)) (by decide +kernel)) (en_k (by decide +kernel)) ?_
  show xm_G (en 6 L) (d + 1) true 36 15 [some (xm_r (2, 0, 0)), some (xm_i (6 : Int32))] [xm_r (4, 0, 0), xm_r (2, 0, 0)] ((5, 35), fi, fl, (xm_up r (2, 0, 0) 0 (some (3, 0, 0)))) R
  refine pg_36_15 (en_ok (by decide +kernel)) ?_
  refine pg_36_18 rfl ?_
  refine pg_36_19 rfl ?_
  refine pg_36_20 ?_
  refine pg_36_21 ?_
  refine go_top (y := (7 : Int32)) (by decide) ?_
  refine pg_36_22 (n := 7) (rfl : (7 : Int32) = nI 7) (by decide) (en_a (a := (5, 0, 0)) (by decide +kernel)) (en_k (by decide +kernel)) ?_
  show xm_G (en 6 L) (d + 1) true 36 24 [some (xm_r (2, 0, 0)), some (xm_i (6 : Int32))] [xm_r (5, 0, 0), xm_r (2, 0, 0)] ((6, 42), fi, fl, (xm_up (xm_up r (2, 0, 0) 0 (some (3, 0, 0))) (2, 0, 0) 1 (some (4, 0, 0)))) R
  refine pg_36_24 (en_ok (by decide +kernel)) ?_
  exact go_eq hR.symm (pg_36_27)
def cf_43_6_0 (fi : FI) : FI := (xm_up (xm_up (xm_up fi (7, 0, 0) 0 (0 : Int32)) (7, 0, 0) 1 (6 : Int32)) (8, 0, 0) 2 (sp_1 (6 : Int32)))
def cr_43_6_0 (r : xm_I → Nat → Option xm_I) : xm_I → Nat → Option xm_I := (xm_up (xm_up (xm_up (xm_up (xm_up (xm_up (xm_up (xm_up (xm_up (xm_up (xm_up (xm_up (xm_up (xm_up (xm_up (xm_up (xm_up (xm_up (xm_up (xm_up (xm_up (xm_up (xm_up (xm_up (xm_up (xm_up (xm_up (xm_up r (7, 0, 0) 4 (some (8, 0, 0))) (9, 0, 0) 0 (some (10, 0, 0))) (7, 0, 0) 5 (some (9, 0, 0))) (7, 0, 0) 6 (some (11, 0, 0))) (9, 0, 6) 0 (some (10, 0, 6))) (11, 0, 0) 0 (some (9, 0, 6))) (9, 0, 7) 0 (some (10, 0, 7))) (11, 0, 0) 1 (some (9, 0, 7))) (9, 0, 8) 0 (some (10, 0, 8))) (11, 0, 0) 2 (some (9, 0, 8))) (9, 0, 9) 0 (some (10, 0, 9))) (11, 0, 0) 3 (some (9, 0, 9))) (9, 0, 10) 0 (some (10, 0, 10))) (11, 0, 0) 4 (some (9, 0, 10))) (9, 0, 11) 0 (some (10, 0, 11))) (11, 0, 0) 5 (some (9, 0, 11))) (7, 0, 0) 7 (some (12, 0, 0))) (9, 0, 2) 0 (some (10, 0, 2))) (12, 0, 0) 0 (some (9, 0, 2))) (9, 0, 3) 0 (some (10, 0, 3))) (12, 0, 0) 1 (some (9, 0, 3))) (9, 0, 4) 0 (some (10, 0, 4))) (12, 0, 0) 2 (some (9, 0, 4))) (9, 0, 5) 0 (some (10, 0, 5))) (12, 0, 0) 3 (some (9, 0, 5))) (9, 0, 1) 0 (some (10, 0, 1))) (7, 0, 0) 8 (some (9, 0, 1))) (7, 0, 0) 9 (some (13, 0, 0)))
set_option maxRecDepth 8000 in
theorem ct_43_6_0 {L : Nat} {fi : FI} {fl : FL} {r : xm_I → Nat → Option xm_I} {d : Nat} : xm_C (en 6 L) (d + 2) true 43 [xm_r (7, 0, 0), xm_i (0 : Int32), xm_i (6 : Int32)] ((8, 61), fi, fl, r) (.inl none, ((36, 177), cf_43_6_0 fi, fl, cr_43_6_0 r)) := by
  suffices key : ∀ (E : xm_E) (R : xm_O), E = en 6 L → ((.inl none, ((36, 177), cf_43_6_0 fi, fl, cr_43_6_0 r)) : xm_O) = R → xm_G (en 6 L) (d + 1) true 43 0 [some (xm_r (7, 0, 0)), some (xm_i (0 : Int32)), some (xm_i (6 : Int32)), none] [] ((8, 61), fi, fl, r) R from go_inr (by decide) (Nat.le_of_ble_eq_true rfl) (key _ _ rfl rfl)
  intro E R hE hR
  refine pg_43_0 rfl ?_
  refine pg_43_1 (Nat.le_of_ble_eq_true rfl) ?_
  refine pg_43_4 rfl ?_
  refine pg_43_5 rfl ?_
  refine pg_43_6 (en_ok (by decide +kernel)) ?_
  refine pg_43_9 rfl ?_
  refine pg_43_10 rfl ?_
  refine pg_43_11 (en_ok (by decide +kernel)) ?_
  refine pg_43_14 rfl ?_
  refine pg_43_15 ?_
  refine pg_43_16 (n := 4) (rfl : (4 : Int32) = nI 4) (by decide) (en_a (a := (8, 0, 0)) (by decide +kernel)) (en_k (by decide +kernel)) ?_
  show xm_G (en 6 L) (d + 1) true 43 18 [some (xm_r (7, 0, 0)), some (xm_i (0 : Int32)), some (xm_i (6 : Int32)), none] [xm_r (8, 0, 0), xm_r (7, 0, 0)] ((9, 65), (xm_up (xm_up fi (7, 0, 0) 0 (0 : Int32)) (7, 0, 0) 1 (6 : Int32)), fl, r) R
  refine pg_43_18 (en_ok (by decide +kernel)) ?_
  refine pg_43_21 rfl ?_
  refine pg_43_22 (en_ok (by decide +kernel)) rfl ?_
  refine pg_43_25 ?_
  refine pg_43_26 rfl ?_
  refine pg_43_27 (Nat.le_of_ble_eq_true rfl) (ct_1 (x := (6 : Int32))) ?_
  refine pg_43_30 (en_ok (s := 4) (by decide +kernel)) (i := 2) (rfl : (2 : Int32) = nI 2) (by omega) (by omega) ?_
  refine pg_43_31 rfl ?_
  refine pg_43_32 (a := (9, 0, 0)) (en_a (by decide +kernel)) (en_k (by decide +kernel)) ?_
  show xm_G (en 6 L) (d + 1) true 43 35 [some (xm_r (7, 0, 0)), some (xm_i (0 : Int32)), some (xm_i (6 : Int32)), none] [xm_r (9, 0, 0), xm_r (7, 0, 0)] ((10, 67), (xm_up (xm_up (xm_up fi (7, 0, 0) 0 (0 : Int32)) (7, 0, 0) 1 (6 : Int32)) (8, 0, 0) 2 (sp_1 (6 : Int32))), fl, (xm_up r (7, 0, 0) 4 (some (8, 0, 0)))) R
  refine pg_43_35 rfl ?_
  refine pg_43_36 rfl ?_
  refine pg_43_37 (Nat.le_of_ble_eq_true rfl) (ct_61 (m := 6) (b := (10, 0, 0)) (rfl : (6 : Int32) = nI 6) (by decide) (en_a (by decide +kernel)) (en_k (by decide +kernel)) (en_ok (by decide +kernel))) ?_
  show xm_G (en 6 L) (d + 1) true 43 40 [some (xm_r (7, 0, 0)), some (xm_i (0 : Int32)), some (xm_i (6 : Int32)), none] [xm_r (9, 0, 0), xm_r (7, 0, 0)] ((11, 73), (xm_up (xm_up (xm_up fi (7, 0, 0) 0 (0 : Int32)) (7, 0, 0) 1 (6 : Int32)) (8, 0, 0) 2 (sp_1 (6 : Int32))), fl, (xm_up (xm_up r (7, 0, 0) 4 (some (8, 0, 0))) (9, 0, 0) 0 (some (10, 0, 0)))) R
  refine pg_43_40 (en_ok (by decide +kernel)) ?_
  refine pg_43_43 rfl ?_
  refine pg_43_44 rfl ?_
  refine pg_43_45 (n := 6) (rfl : (6 : Int32) = nI 6) (by decide) (en_a (a := (11, 0, 0)) (by decide +kernel)) (en_k (by decide +kernel)) ?_
  show xm_G (en 6 L) (d + 1) true 43 48 [some (xm_r (7, 0, 0)), some (xm_i (0 : Int32)), some (xm_i (6 : Int32)), none] [xm_r (11, 0, 0), xm_r (7, 0, 0)] ((12, 79), (xm_up (xm_up (xm_up fi (7, 0, 0) 0 (0 : Int32)) (7, 0, 0) 1 (6 : Int32)) (8, 0, 0) 2 (sp_1 (6 : Int32))), fl, (xm_up (xm_up (xm_up r (7, 0, 0) 4 (some (8, 0, 0))) (9, 0, 0) 0 (some (10, 0, 0))) (7, 0, 0) 5 (some (9, 0, 0)))) R
  refine pg_43_48 (en_ok (by decide +kernel)) ?_
  refine pg_43_51 ?_
  refine pg_43_52 (lv' := [some (xm_r (7, 0, 0)), some (xm_i (0 : Int32)), some (xm_i (6 : Int32)), some (xm_i (0 : Int32))]) rfl ?_
  refine pg_43_53 rfl ?_
  refine pg_43_54 rfl ?_
  refine pg_43_55 (fun hc => absurd hc (by decide)) (fun _ => ?_)
  refine pg_43_58 rfl ?_
  refine pg_43_59 (en_ok (by decide +kernel)) rfl ?_
  refine pg_43_62 rfl ?_
  refine pg_43_63 (a := (9, 0, 6)) (en_a (by decide +kernel)) (en_k (by decide +kernel)) ?_
  show xm_G (en 6 L) (d + 1) true 43 66 [some (xm_r (7, 0, 0)), some (xm_i (0 : Int32)), some (xm_i (6 : Int32)), some (xm_i (0 : Int32))] [xm_r (9, 0, 6), xm_i (0 : Int32), xm_r (11, 0, 0)] ((13, 81), (xm_up (xm_up (xm_up fi (7, 0, 0) 0 (0 : Int32)) (7, 0, 0) 1 (6 : Int32)) (8, 0, 0) 2 (sp_1 (6 : Int32))), fl, (xm_up (xm_up (xm_up (xm_up r (7, 0, 0) 4 (some (8, 0, 0))) (9, 0, 0) 0 (some (10, 0, 0))) (7, 0, 0) 5 (some (9, 0, 0))) (7, 0, 0) 6 (some (11, 0, 0)))) R
  refine pg_43_66 rfl ?_
  refine pg_43_67 rfl ?_
  refine pg_43_68 (Nat.le_of_ble_eq_true rfl) (ct_61 (m := 6) (b := (10, 0, 6)) (rfl : (6 : Int32) = nI 6) (by decide) (en_a (by decide +kernel)) (en_k (by decide +kernel)) (en_ok (by decide +kernel))) ?_
  show xm_G (en 6 L) (d + 1) true 43 71 [some (xm_r (7, 0, 0)), some (xm_i (0 : Int32)), some (xm_i (6 : Int32)), some (xm_i (0 : Int32))] [xm_r (9, 0, 6), xm_i (0 : Int32), xm_r (11, 0, 0)] ((14, 87), (xm_up (xm_up (xm_up fi (7, 0, 0) 0 (0 : Int32)) (7, 0, 0) 1 (6 : Int32)) (8, 0, 0) 2 (sp_1 (6 : Int32))), fl, (xm_up (xm_up (xm_up (xm_up (xm_up r (7, 0, 0) 4 (some (8, 0, 0))) (9, 0, 0) 0 (some (10, 0, 0))) (7, 0, 0) 5 (some (9, 0, 0))) (7, 0, 0) 6 (some (11, 0, 0))) (9, 0, 6) 0 (some (10, 0, 6)))) R
  refine pg_43_71 (en_ok (t := 4) (s := 0) (by decide +kernel)) (by decide) (by decide) (en_ok (s := 6) (by decide +kernel)) (i := 0) (rfl : (0 : Int32) = nI 0) (by decide) (by decide) ?_
  refine pg_43_72 (y := (1 : Int32)) (lv' := [some (xm_r (7, 0, 0)), some (xm_i (0 : Int32)), some (xm_i (6 : Int32)), some (xm_i (1 : Int32))]) rfl (by decide) rfl ?_
  refine pg_43_75 ?_
  refine pg_43_53 rfl ?_
  refine pg_43_54 rfl ?_
  refine pg_43_55 (fun hc => absurd hc (by decide)) (fun _ => ?_)
  refine pg_43_58 rfl ?_
  refine pg_43_59 (en_ok (by decide +kernel)) rfl ?_
  refine pg_43_62 rfl ?_
  refine pg_43_63 (a := (9, 0, 7)) (en_a (by decide +kernel)) (en_k (by decide +kernel)) ?_
  show xm_G (en 6 L) (d + 1) true 43 66 [some (xm_r (7, 0, 0)), some (xm_i (0 : Int32)), some (xm_i (6 : Int32)), some (xm_i (1 : Int32))] [xm_r (9, 0, 7), xm_i (1 : Int32), xm_r (11, 0, 0)] ((15, 89), (xm_up (xm_up (xm_up fi (7, 0, 0) 0 (0 : Int32)) (7, 0, 0) 1 (6 : Int32)) (8, 0, 0) 2 (sp_1 (6 : Int32))), fl, (xm_up (xm_up (xm_up (xm_up (xm_up (xm_up r (7, 0, 0) 4 (some (8, 0, 0))) (9, 0, 0) 0 (some (10, 0, 0))) (7, 0, 0) 5 (some (9, 0, 0))) (7, 0, 0) 6 (some (11, 0, 0))) (9, 0, 6) 0 (some (10, 0, 6))) (11, 0, 0) 0 (some (9, 0, 6)))) R
  refine pg_43_66 rfl ?_
  refine pg_43_67 rfl ?_
  refine pg_43_68 (Nat.le_of_ble_eq_true rfl) (ct_61 (m := 6) (b := (10, 0, 7)) (rfl : (6 : Int32) = nI 6) (by decide) (en_a (by decide +kernel)) (en_k (by decide +kernel)) (en_ok (by decide +kernel))) ?_
  show xm_G (en 6 L) (d + 1) true 43 71 [some (xm_r (7, 0, 0)), some (xm_i (0 : Int32)), some (xm_i (6 : Int32)), some (xm_i (1 : Int32))] [xm_r (9, 0, 7), xm_i (1 : Int32), xm_r (11, 0, 0)] ((16, 95), (xm_up (xm_up (xm_up fi (7, 0, 0) 0 (0 : Int32)) (7, 0, 0) 1 (6 : Int32)) (8, 0, 0) 2 (sp_1 (6 : Int32))), fl, (xm_up (xm_up (xm_up (xm_up (xm_up (xm_up (xm_up r (7, 0, 0) 4 (some (8, 0, 0))) (9, 0, 0) 0 (some (10, 0, 0))) (7, 0, 0) 5 (some (9, 0, 0))) (7, 0, 0) 6 (some (11, 0, 0))) (9, 0, 6) 0 (some (10, 0, 6))) (11, 0, 0) 0 (some (9, 0, 6))) (9, 0, 7) 0 (some (10, 0, 7)))) R
  refine pg_43_71 (en_ok (t := 4) (s := 0) (by decide +kernel)) (by decide) (by decide) (en_ok (s := 6) (by decide +kernel)) (i := 1) (rfl : (1 : Int32) = nI 1) (by decide) (by decide) ?_
  refine pg_43_72 (y := (2 : Int32)) (lv' := [some (xm_r (7, 0, 0)), some (xm_i (0 : Int32)), some (xm_i (6 : Int32)), some (xm_i (2 : Int32))]) rfl (by decide) rfl ?_
  refine pg_43_75 ?_
  refine pg_43_53 rfl ?_
  refine pg_43_54 rfl ?_
  refine pg_43_55 (fun hc => absurd hc (by decide)) (fun _ => ?_)
  refine pg_43_58 rfl ?_
  refine pg_43_59 (en_ok (by decide +kernel)) rfl ?_
  refine pg_43_62 rfl ?_
  refine pg_43_63 (a := (9, 0, 8)) (en_a (by decide +kernel)) (en_k (by decide +kernel)) ?_
  show xm_G (en 6 L) (d + 1) true 43 66 [some (xm_r (7, 0, 0)), some (xm_i (0 : Int32)), some (xm_i (6 : Int32)), some (xm_i (2 : Int32))] [xm_r (9, 0, 8), xm_i (2 : Int32), xm_r (11, 0, 0)] ((17, 97), (xm_up (xm_up (xm_up fi (7, 0, 0) 0 (0 : Int32)) (7, 0, 0) 1 (6 : Int32)) (8, 0, 0) 2 (sp_1 (6 : Int32))), fl, (xm_up (xm_up (xm_up (xm_up (xm_up (xm_up (xm_up (xm_up r (7, 0, 0) 4 (some (8, 0, 0))) (9, 0, 0) 0 (some (10, 0, 0))) (7, 0, 0) 5 (some (9, 0, 0))) (7, 0, 0) 6 (some (11, 0, 0))) (9, 0, 6) 0 (some (10, 0, 6))) (11, 0, 0) 0 (some (9, 0, 6))) (9, 0, 7) 0 (some (10, 0, 7))) (11, 0, 0) 1 (some (9, 0, 7)))) R
  refine pg_43_66 rfl ?_
  refine pg_43_67 rfl ?_
  refine pg_43_68 (Nat.le_of_ble_eq_true rfl) (ct_61 (m := 6) (b := (10, 0, 8)) (rfl : (6 : Int32) = nI 6) (by decide) (en_a (by decide +kernel)) (en_k (by decide +kernel)) (en_ok (by decide +kernel))) ?_
  show xm_G (en 6 L) (d + 1) true 43 71 [some (xm_r (7, 0, 0)), some (xm_i (0 : Int32)), some (xm_i (6 : Int32)), some (xm_i (2 : Int32))] [xm_r (9, 0, 8), xm_i (2 : Int32), xm_r (11, 0, 0)] ((18, 103), (xm_up (xm_up (xm_up fi (7, 0, 0) 0 (0 : Int32)) (7, 0, 0) 1 (6 : Int32)) (8, 0, 0) 2 (sp_1 (6 : Int32))), fl, (xm_up (xm_up (xm_up (xm_up (xm_up (xm_up (xm_up (xm_up (xm_up r (7, 0, 0) 4 (some (8, 0, 0))) (9, 0, 0) 0 (some (10, 0, 0))) (7, 0, 0) 5 (some (9, 0, 0))) (7, 0, 0) 6 (some (11, 0, 0))) (9, 0, 6) 0 (some (10, 0, 6))) (11, 0, 0) 0 (some (9, 0, 6))) (9, 0, 7) 0 (some (10, 0, 7))) (11, 0, 0) 1 (some (9, 0, 7))) (9, 0, 8) 0 (some (10, 0, 8)))) R
  refine pg_43_71 (en_ok (t := 4) (s := 0) (by decide +kernel)) (by decide) (by decide) (en_ok (s := 6) (by decide +kernel)) (i := 2) (rfl : (2 : Int32) = nI 2) (by decide) (by decide) ?_
  refine pg_43_72 (y := (3 : Int32)) (lv' := [some (xm_r (7, 0, 0)), some (xm_i (0 : Int32)), some (xm_i (6 : Int32)), some (xm_i (3 : Int32))]) rfl (by decide) rfl ?_
  refine pg_43_75 ?_
  refine pg_43_53 rfl ?_
  refine pg_43_54 rfl ?_
  refine pg_43_55 (fun hc => absurd hc (by decide)) (fun _ => ?_)
  refine pg_43_58 rfl ?_
  refine pg_43_59 (en_ok (by decide +kernel)) rfl ?_
  refine pg_43_62 rfl ?_
  refine pg_43_63 (a := (9, 0, 9)) (en_a (by decide +kernel)) (en_k (by decide +kernel)) ?_
  show xm_G (en 6 L) (d + 1) true 43 66 [some (xm_r (7, 0, 0)), some (xm_i (0 : Int32)), some (xm_i (6 : Int32)), some (xm_i (3 : Int32))] [xm_r (9, 0, 9), xm_i (3 : Int32), xm_r (11, 0, 0)] ((19, 105), (xm_up (xm_up (xm_up fi (7, 0, 0) 0 (0 : Int32)) (7, 0, 0) 1 (6 : Int32)) (8, 0, 0) 2 (sp_1 (6 : Int32))), fl, (xm_up (xm_up (xm_up (xm_up (xm_up (xm_up (xm_up (xm_up (xm_up (xm_up r (7, 0, 0) 4 (some (8, 0, 0))) (9, 0, 0) 0 (some (10, 0, 0))) (7, 0, 0) 5 (some (9, 0, 0))) (7, 0, 0) 6 (some (11, 0, 0))) (9, 0, 6) 0 (some (10, 0, 6))) (11, 0, 0) 0 (some (9, 0, 6))) (9, 0, 7) 0 (some (10, 0, 7))) (11, 0, 0) 1 (some (9, 0, 7))) (9, 0, 8) 0 (some (10, 0, 8))) (11, 0, 0) 2 (some (9, 0, 8)))) R
  refine pg_43_66 rfl ?_
  refine pg_43_67 rfl ?_
  refine pg_43_68 (Nat.le_of_ble_eq_true rfl) (ct_61 (m := 6) (b := (10, 0, 9)) (rfl : (6 : Int32) = nI 6) (by decide) (en_a (by decide +kernel)) (en_k (by decide +kernel)) (en_ok (by decide +kernel))) ?_
  show xm_G (en 6 L) (d + 1) true 43 71 [some (xm_r (7, 0, 0)), some (xm_i (0 : Int32)), some (xm_i (6 : Int32)), some (xm_i (3 : Int32))] [xm_r (9, 0, 9), xm_i (3 : Int32), xm_r (11, 0, 0)] ((20, 111), (xm_up (xm_up (xm_up fi (7, 0, 0) 0 (0 : Int32)) (7, 0, 0) 1 (6 : Int32)) (8, 0, 0) 2 (sp_1 (6 : Int32))), fl, (xm_up (xm_up (xm_up (xm_up (xm_up (xm_up (xm_up (xm_up (xm_up (xm_up (xm_up r (7, 0, 0) 4 (some (8, 0, 0))) (9, 0, 0) 0 (some (10, 0, 0))) (7, 0, 0) 5 (some (9, 0, 0))) (7, 0, 0) 6 (some (11, 0, 0))) (9, 0, 6) 0 (some (10, 0, 6))) (11, 0, 0) 0 (some (9, 0, 6))) (9, 0, 7) 0 (some (10, 0, 7))) (11, 0, 0) 1 (some (9, 0, 7))) (9, 0, 8) 0 (some (10, 0, 8))) (11, 0, 0) 2 (some (9, 0, 8))) (9, 0, 9) 0 (some (10, 0, 9)))) R
  refine pg_43_71 (en_ok (t := 4) (s := 0) (by decide +kernel)) (by decide) (by decide) (en_ok (s := 6) (by decide +kernel)) (i := 3) (rfl : (3 : Int32) = nI 3) (by decide) (by decide) ?_
  refine pg_43_72 (y := (4 : Int32)) (lv' := [some (xm_r (7, 0, 0)), some (xm_i (0 : Int32)), some (xm_i (6 : Int32)), some (xm_i (4 : Int32))]) rfl (by decide) rfl ?_
  refine pg_43_75 ?_
  refine pg_43_53 rfl ?_
  refine pg_43_54 rfl ?_
  refine pg_43_55 (fun hc => absurd hc (by decide)) (fun _ => ?_)
  refine pg_43_58 rfl ?_
  refine pg_43_59 (en_ok (by decide +kernel)) rfl ?_
  refine pg_43_62 rfl ?_
  refine pg_43_63 (a := (9, 0, 10)) (en_a (by decide +kernel)) (en_k (by decide +kernel)) ?_
  show xm_G (en 6 L) (d + 1) true 43 66 [some (xm_r (7, 0, 0)), some (xm_i (0 : Int32)), some (xm_i (6 : Int32)), some (xm_i (4 : Int32))] [xm_r (9, 0, 10), xm_i (4 : Int32), xm_r (11, 0, 0)] ((21, 113), (xm_up (xm_up (xm_up fi (7, 0, 0) 0 (0 : Int32)) (7, 0, 0) 1 (6 : Int32)) (8, 0, 0) 2 (sp_1 (6 : Int32))), fl, (xm_up (xm_up (xm_up (xm_up (xm_up (xm_up (xm_up (xm_up (xm_up (xm_up (xm_up (xm_up r (7, 0, 0) 4 (some (8, 0, 0))) (9, 0, 0) 0 (some (10, 0, 0))) (7, 0, 0) 5 (some (9, 0, 0))) (7, 0, 0) 6 (some (11, 0, 0))) (9, 0, 6) 0 (some (10, 0, 6))) (11, 0, 0) 0 (some (9, 0, 6))) (9, 0, 7) 0 (some (10, 0, 7))) (11, 0, 0) 1 (some (9, 0, 7))) (9, 0, 8) 0 (some (10, 0, 8))) (11, 0, 0) 2 (some (9, 0, 8))) (9, 0, 9) 0 (some (10, 0, 9))) (11, 0, 0) 3 (some (9, 0, 9)))) R
  refine pg_43_66 rfl ?_
  refine pg_43_67 rfl ?_
  refine pg_43_68 (Nat.le_of_ble_eq_true rfl) (ct_61 (m := 6) (b := (10, 0, 10)) (rfl : (6 : Int32) = nI 6) (by decide) (en_a (by decide +kernel)) (en_k (by decide +kernel)) (en_ok (by decide +kernel))) ?_
  show xm_G (en 6 L) (d + 1) true 43 71 [some (xm_r (7, 0, 0)), some (xm_i (0 : Int32)), some (xm_i (6 : Int32)), some (xm_i (4 : Int32))] [xm_r (9, 0, 10), xm_i (4 : Int32), xm_r (11, 0, 0)] ((22, 119), (xm_up (xm_up (xm_up fi (7, 0, 0) 0 (0 : Int32)) (7, 0, 0) 1 (6 : Int32)) (8, 0, 0) 2 (sp_1 (6 : Int32))), fl, (xm_up (xm_up (xm_up (xm_up (xm_up (xm_up (xm_up (xm_up (xm_up (xm_up (xm_up (xm_up (xm_up r (7, 0, 0) 4 (some (8, 0, 0))) (9, 0, 0) 0 (some (10, 0, 0))) (7, 0, 0) 5 (some (9, 0, 0))) (7, 0, 0) 6 (some (11, 0, 0))) (9, 0, 6) 0 (some (10, 0, 6))) (11, 0, 0) 0 (some (9, 0, 6))) (9, 0, 7) 0 (some (10, 0, 7))) (11, 0, 0) 1 (some (9, 0, 7))) (9, 0, 8) 0 (some (10, 0, 8))) (11, 0, 0) 2 (some (9, 0, 8))) (9, 0, 9) 0 (some (10, 0, 9))) (11, 0, 0) 3 (some (9, 0, 9))) (9, 0, 10) 0 (some (10, 0, 10)))) R
  refine pg_43_71 (en_ok (t := 4) (s := 0) (by decide +kernel)) (by decide) (by decide) (en_ok (s := 6) (by decide +kernel)) (i := 4) (rfl : (4 : Int32) = nI 4) (by decide) (by decide) ?_
  refine pg_43_72 (y := (5 : Int32)) (lv' := [some (xm_r (7, 0, 0)), some (xm_i (0 : Int32)), some (xm_i (6 : Int32)), some (xm_i (5 : Int32))]) rfl (by decide) rfl ?_
  refine pg_43_75 ?_
  refine pg_43_53 rfl ?_
  refine pg_43_54 rfl ?_
  refine pg_43_55 (fun hc => absurd hc (by decide)) (fun _ => ?_)
  refine pg_43_58 rfl ?_
  refine pg_43_59 (en_ok (by decide +kernel)) rfl ?_
  refine pg_43_62 rfl ?_
  refine pg_43_63 (a := (9, 0, 11)) (en_a (by decide +kernel)) (en_k (by decide +kernel)) ?_
  show xm_G (en 6 L) (d + 1) true 43 66 [some (xm_r (7, 0, 0)), some (xm_i (0 : Int32)), some (xm_i (6 : Int32)), some (xm_i (5 : Int32))] [xm_r (9, 0, 11), xm_i (5 : Int32), xm_r (11, 0, 0)] ((23, 121), (xm_up (xm_up (xm_up fi (7, 0, 0) 0 (0 : Int32)) (7, 0, 0) 1 (6 : Int32)) (8, 0, 0) 2 (sp_1 (6 : Int32))), fl, (xm_up (xm_up (xm_up (xm_up (xm_up (xm_up (xm_up (xm_up (xm_up (xm_up (xm_up (xm_up (xm_up (xm_up r (7, 0, 0) 4 (some (8, 0, 0))) (9, 0, 0) 0 (some (10, 0, 0))) (7, 0, 0) 5 (some (9, 0, 0))) (7, 0, 0) 6 (some (11, 0, 0))) (9, 0, 6) 0 (some (10, 0, 6))) (11, 0, 0) 0 (some (9, 0, 6))) (9, 0, 7) 0 (some (10, 0, 7))) (11, 0, 0) 1 (some (9, 0, 7))) (9, 0, 8) 0 (some (10, 0, 8))) (11, 0, 0) 2 (some (9, 0, 8))) (9, 0, 9) 0 (some (10, 0, 9))) (11, 0, 0) 3 (some (9, 0, 9))) (9, 0, 10) 0 (some (10, 0, 10))) (11, 0, 0) 4 (some (9, 0, 10)))) R
  refine pg_43_66 rfl ?_
  refine pg_43_67 rfl ?_
  refine pg_43_68 (Nat.le_of_ble_eq_true rfl) (ct_61 (m := 6) (b := (10, 0, 11)) (rfl : (6 : Int32) = nI 6) (by decide) (en_a (by decide +kernel)) (en_k (by decide +kernel)) (en_ok (by decide +kernel))) ?_
  show xm_G (en 6 L) (d + 1) true 43 71 [some (xm_r (7, 0, 0)), some (xm_i (0 : Int32)), some (xm_i (6 : Int32)), some (xm_i (5 : Int32))] [xm_r (9, 0, 11), xm_i (5 : Int32), xm_r (11, 0, 0)] ((24, 127), (xm_up (xm_up (xm_up fi (7, 0, 0) 0 (0 : Int32)) (7, 0, 0) 1 (6 : Int32)) (8, 0, 0) 2 (sp_1 (6 : Int32))), fl, (xm_up (xm_up (xm_up (xm_up (xm_up (xm_up (xm_up (xm_up (xm_up (xm_up (xm_up (xm_up (xm_up (xm_up (xm_up r (7, 0, 0) 4 (some (8, 0, 0))) (9, 0, 0) 0 (some (10, 0, 0))) (7, 0, 0) 5 (some (9, 0, 0))) (7, 0, 0) 6 (some (11, 0, 0))) (9, 0, 6) 0 (some (10, 0, 6))) (11, 0, 0) 0 (some (9, 0, 6))) (9, 0, 7) 0 (some (10, 0, 7))) (11, 0, 0) 1 (some (9, 0, 7))) (9, 0, 8) 0 (some (10, 0, 8))) (11, 0, 0) 2 (some (9, 0, 8))) (9, 0, 9) 0 (some (10, 0, 9))) (11, 0, 0) 3 (some (9, 0, 9))) (9, 0, 10) 0 (some (10, 0, 10))) (11, 0, 0) 4 (some (9, 0, 10))) (9, 0, 11) 0 (some (10, 0, 11)))) R
  refine pg_43_71 (en_ok (t := 4) (s := 0) (by decide +kernel)) (by decide) (by decide) (en_ok (s := 6) (by decide +kernel)) (i := 5) (rfl : (5 : Int32) = nI 5) (by decide) (by decide) ?_
  refine pg_43_72 (y := (6 : Int32)) (lv' := [some (xm_r (7, 0, 0)), some (xm_i (0 : Int32)), some (xm_i (6 : Int32)), some (xm_i (6 : Int32))]) rfl (by decide) rfl ?_
  refine pg_43_75 ?_
  refine pg_43_53 rfl ?_
  refine pg_43_54 rfl ?_
  refine pg_43_55 (fun _ => ?_) (fun hc => absurd (by decide) hc)
  refine pg_43_78 rfl ?_
  refine pg_43_79 ?_
  refine pg_43_80 (n := 4) (rfl : (4 : Int32) = nI 4) (by decide) (en_a (a := (12, 0, 0)) (by decide +kernel)) (en_k (by decide +kernel)) ?_
  show xm_G (en 6 L) (d + 1) true 43 83 [some (xm_r (7, 0, 0)), some (xm_i (0 : Int32)), some (xm_i (6 : Int32)), some (xm_i (6 : Int32))] [xm_r (12, 0, 0), xm_r (7, 0, 0)] ((25, 131), (xm_up (xm_up (xm_up fi (7, 0, 0) 0 (0 : Int32)) (7, 0, 0) 1 (6 : Int32)) (8, 0, 0) 2 (sp_1 (6 : Int32))), fl, (xm_up (xm_up (xm_up (xm_up (xm_up (xm_up (xm_up (xm_up (xm_up (xm_up (xm_up (xm_up (xm_up (xm_up (xm_up (xm_up r (7, 0, 0) 4 (some (8, 0, 0))) (9, 0, 0) 0 (some (10, 0, 0))) (7, 0, 0) 5 (some (9, 0, 0))) (7, 0, 0) 6 (some (11, 0, 0))) (9, 0, 6) 0 (some (10, 0, 6))) (11, 0, 0) 0 (some (9, 0, 6))) (9, 0, 7) 0 (some (10, 0, 7))) (11, 0, 0) 1 (some (9, 0, 7))) (9, 0, 8) 0 (some (10, 0, 8))) (11, 0, 0) 2 (some (9, 0, 8))) (9, 0, 9) 0 (some (10, 0, 9))) (11, 0, 0) 3 (some (9, 0, 9))) (9, 0, 10) 0 (some (10, 0, 10))) (11, 0, 0) 4 (some (9, 0, 10))) (9, 0, 11) 0 (some (10, 0, 11))) (11, 0, 0) 5 (some (9, 0, 11)))) R
  refine pg_43_83 (en_ok (by decide +kernel)) ?_
  refine pg_43_86 ?_
  refine pg_43_87 (lv' := [some (xm_r (7, 0, 0)), some (xm_i (0 : Int32)), some (xm_i (6 : Int32)), some (xm_i (0 : Int32))]) rfl ?_
  refine pg_43_88 rfl ?_
  refine pg_43_89 ?_
  refine pg_43_90 (fun hc => absurd hc (by decide)) (fun _ => ?_)
  refine pg_43_93 rfl ?_
  refine pg_43_94 (en_ok (by decide +kernel)) rfl ?_
  refine pg_43_97 rfl ?_
  refine pg_43_98 (a := (9, 0, 2)) (en_a (by decide +kernel)) (en_k (by decide +kernel)) ?_
  show xm_G (en 6 L) (d + 1) true 43 101 [some (xm_r (7, 0, 0)), some (xm_i (0 : Int32)), some (xm_i (6 : Int32)), some (xm_i (0 : Int32))] [xm_r (9, 0, 2), xm_i (0 : Int32), xm_r (12, 0, 0)] ((26, 133), (xm_up (xm_up (xm_up fi (7, 0, 0) 0 (0 : Int32)) (7, 0, 0) 1 (6 : Int32)) (8, 0, 0) 2 (sp_1 (6 : Int32))), fl, (xm_up (xm_up (xm_up (xm_up (xm_up (xm_up (xm_up (xm_up (xm_up (xm_up (xm_up (xm_up (xm_up (xm_up (xm_up (xm_up (xm_up r (7, 0, 0) 4 (some (8, 0, 0))) (9, 0, 0) 0 (some (10, 0, 0))) (7, 0, 0) 5 (some (9, 0, 0))) (7, 0, 0) 6 (some (11, 0, 0))) (9, 0, 6) 0 (some (10, 0, 6))) (11, 0, 0) 0 (some (9, 0, 6))) (9, 0, 7) 0 (some (10, 0, 7))) (11, 0, 0) 1 (some (9, 0, 7))) (9, 0, 8) 0 (some (10, 0, 8))) (11, 0, 0) 2 (some (9, 0, 8))) (9, 0, 9) 0 (some (10, 0, 9))) (11, 0, 0) 3 (some (9, 0, 9))) (9, 0, 10) 0 (some (10, 0, 10))) (11, 0, 0) 4 (some (9, 0, 10))) (9, 0, 11) 0 (some (10, 0, 11))) (11, 0, 0) 5 (some (9, 0, 11))) (7, 0, 0) 7 (some (12, 0, 0)))) R
  refine pg_43_101 rfl ?_
  refine pg_43_102 rfl ?_
  refine pg_43_103 (Nat.le_of_ble_eq_true rfl) (ct_61 (m := 6) (b := (10, 0, 2)) (rfl : (6 : Int32) = nI 6) (by decide) (en_a (by decide +kernel)) (en_k (by decide +kernel)) (en_ok (by decide +kernel))) ?_
  show xm_G (en 6 L) (d + 1) true 43 106 [some (xm_r (7, 0, 0)), some (xm_i (0 : Int32)), some (xm_i (6 : Int32)), some (xm_i (0 : Int32))] [xm_r (9, 0, 2), xm_i (0 : Int32), xm_r (12, 0, 0)] ((27, 139), (xm_up (xm_up (xm_up fi (7, 0, 0) 0 (0 : Int32)) (7, 0, 0) 1 (6 : Int32)) (8, 0, 0) 2 (sp_1 (6 : Int32))), fl, (xm_up (xm_up (xm_up (xm_up (xm_up (xm_up (xm_up (xm_up (xm_up (xm_up (xm_up (xm_up (xm_up (xm_up (xm_up (xm_up (xm_up (xm_up r (7, 0, 0) 4 (some (8, 0, 0))) (9, 0, 0) 0 (some (10, 0, 0))) (7, 0, 0) 5 (some (9, 0, 0))) (7, 0, 0) 6 (some (11, 0, 0))) (9, 0, 6) 0 (some (10, 0, 6))) (11, 0, 0) 0 (some (9, 0, 6))) (9, 0, 7) 0 (some (10, 0, 7))) (11, 0, 0) 1 (some (9, 0, 7))) (9, 0, 8) 0 (some (10, 0, 8))) (11, 0, 0) 2 (some (9, 0, 8))) (9, 0, 9) 0 (some (10, 0, 9))) (11, 0, 0) 3 (some (9, 0, 9))) (9, 0, 10) 0 (some (10, 0, 10))) (11, 0, 0) 4 (some (9, 0, 10))) (9, 0, 11) 0 (some (10, 0, 11))) (11, 0, 0) 5 (some (9, 0, 11))) (7, 0, 0) 7 (some (12, 0, 0))) (9, 0, 2) 0 (some (10, 0, 2)))) R
  refine pg_43_106 (en_ok (t := 4) (s := 0) (by decide +kernel)) (by decide) (by decide) (en_ok (s := 4) (by decide +kernel)) (i := 0) (rfl : (0 : Int32) = nI 0) (by decide) (by decide) ?_
  refine pg_43_107 (y := (1 : Int32)) (lv' := [some (xm_r (7, 0, 0)), some (xm_i (0 : Int32)), some (xm_i (6 : Int32)), some (xm_i (1 : Int32))]) rfl (by decide) rfl ?_
  refine pg_43_110 ?_
  refine pg_43_88 rfl ?_
  refine pg_43_89 ?_
  refine pg_43_90 (fun hc => absurd hc (by decide)) (fun _ => ?_)
  refine pg_43_93 rfl ?_
  refine pg_43_94 (en_ok (by decide +kernel)) rfl ?_
  refine pg_43_97 rfl ?_
  refine pg_43_98 (a := (9, 0, 3)) (en_a (by decide +kernel)) (en_k (by decide +kernel)) ?_
  show xm_G (en 6 L) (d + 1) true 43 101 [some (xm_r (7, 0, 0)), some (xm_i (0 : Int32)), some (xm_i (6 : Int32)), some (xm_i (1 : Int32))] [xm_r (9, 0, 3), xm_i (1 : Int32), xm_r (12, 0, 0)] ((28, 141), (xm_up (xm_up (xm_up fi (7, 0, 0) 0 (0 : Int32)) (7, 0, 0) 1 (6 : Int32)) (8, 0, 0) 2 (sp_1 (6 : Int32))), fl, (xm_up (xm_up (xm_up (xm_up (xm_up (xm_up (xm_up (xm_up (xm_up (xm_up (xm_up (xm_up (xm_up (xm_up (xm_up (xm_up (xm_up (xm_up (xm_up r (7, 0, 0) 4 (some (8, 0, 0))) (9, 0, 0) 0 (some (10, 0, 0))) (7, 0, 0) 5 (some (9, 0, 0))) (7, 0, 0) 6 (some (11, 0, 0))) (9, 0, 6) 0 (some (10, 0, 6))) (11, 0, 0) 0 (some (9, 0, 6))) (9, 0, 7) 0 (some (10, 0, 7))) (11, 0, 0) 1 (some (9, 0, 7))) (9, 0, 8) 0 (some (10, 0, 8))) (11, 0, 0) 2 (some (9, 0, 8))) (9, 0, 9) 0 (some (10, 0, 9))) (11, 0, 0) 3 (some (9, 0, 9))) (9, 0, 10) 0 (some (10, 0, 10))) (11, 0, 0) 4 (some (9, 0, 10))) (9, 0, 11) 0 (some (10, 0, 11))) (11, 0, 0) 5 (some (9, 0, 11))) (7, 0, 0) 7 (some (12, 0, 0))) (9, 0, 2) 0 (some (10, 0, 2))) (12, 0, 0) 0 (some (9, 0, 2)))) R
  refine pg_43_101 rfl ?_
  refine pg_43_102 rfl ?_
  refine pg_43_103 (Nat.le_of_ble_eq_true rfl) (ct_61 (m := 6) (b := (10, 0, 3)) (rfl : (6 : Int32) = nI 6) (by decide) (en_a (by decide +kernel)) (en_k (by decide +kernel)) (en_ok (by decide +kernel))) ?_
  show xm_G (en 6 L) (d + 1) true 43 106 [some (xm_r (7, 0, 0)), some (xm_i (0 : Int32)), some (xm_i (6 : Int32)), some (xm_i (1 : Int32))] [xm_r (9, 0, 3), xm_i (1 : Int32), xm_r (12, 0, 0)] ((29, 147), (xm_up (xm_up (xm_up fi (7, 0, 0) 0 (0 : Int32)) (7, 0, 0) 1 (6 : Int32)) (8, 0, 0) 2 (sp_1 (6 : Int32))), fl, (xm_up (xm_up (xm_up (xm_up (xm_up (xm_up (xm_up (xm_up (xm_up (xm_up (xm_up (xm_up (xm_up (xm_up (xm_up (xm_up (xm_up (xm_up (xm_up (xm_up r (7, 0, 0) 4 (some (8, 0, 0))) (9, 0, 0) 0 (some (10, 0, 0))) (7, 0, 0) 5 (some (9, 0, 0))) (7, 0, 0) 6 (some (11, 0, 0))) (9, 0, 6) 0 (some (10, 0, 6))) (11, 0, 0) 0 (some (9, 0, 6))) (9, 0, 7) 0 (some (10, 0, 7))) (11, 0, 0) 1 (some (9, 0, 7))) (9, 0, 8) 0 (some (10, 0, 8))) (11, 0, 0) 2 (some (9, 0, 8))) (9, 0, 9) 0 (some (10, 0, 9))) (11, 0, 0) 3 (some (9, 0, 9))) (9, 0, 10) 0 (some (10, 0, 10))) (11, 0, 0) 4 (some (9, 0, 10))) (9, 0, 11) 0 (some (10, 0, 11))) (11, 0, 0) 5 (some (9, 0, 11))) (7, 0, 0) 7 (some (12, 0, 0))) (9, 0, 2) 0 (some (10, 0, 2))) (12, 0, 0) 0 (some (9, 0, 2))) (9, 0, 3) 0 (some (10, 0, 3)))) R
  refine pg_43_106 (en_ok (t := 4) (s := 0) (by decide +kernel)) (by decide) (by decide) (en_ok (s := 4) (by decide +kernel)) (i := 1) (rfl : (1 : Int32) = nI 1) (by decide) (by decide) ?_
  refine pg_43_107 (y := (2 : Int32)) (lv' := [some (xm_r (7, 0, 0)), some (xm_i (0 : Int32)), some (xm_i (6 : Int32)), some (xm_i (2 : Int32))]) rfl (by decide) rfl ?_
  refine pg_43_110 ?_
  refine pg_43_88 rfl ?_
  refine pg_43_89 ?_
  refine pg_43_90 (fun hc => absurd hc (by decide)) (fun _ => ?_)
  refine pg_43_93 rfl ?_
  refine pg_43_94 (en_ok (by decide +kernel)) rfl ?_
  refine pg_43_97 rfl ?_
  refine pg_43_98 (a := (9, 0, 4)) (en_a (by decide +kernel)) (en_k (by decide +kernel)) ?_
  show xm_G (en 6 L) (d + 1) true 43 101 [some (xm_r (7, 0, 0)), some (xm_i (0 : Int32)), some (xm_i (6 : Int32)), some (xm_i (2 : Int32))] [xm_r (9, 0, 4), xm_i (2 : Int32), xm_r (12, 0, 0)] ((30, 149), (xm_up (xm_up (xm_up fi (7, 0, 0) 0 (0 : Int32)) (7, 0, 0) 1 (6 : Int32)) (8, 0, 0) 2 (sp_1 (6 : Int32))), fl, (xm_up (xm_up (xm_up (xm_up (xm_up (xm_up (xm_up (xm_up (xm_up (xm_up (xm_up (xm_up (xm_up (xm_up (xm_up (xm_up (xm_up (xm_up (xm_up (xm_up (xm_up r (7, 0, 0) 4 (some (8, 0, 0))) (9, 0, 0) 0 (some (10, 0, 0))) (7, 0, 0) 5 (some (9, 0, 0))) (7, 0, 0) 6 (some (11, 0, 0))) (9, 0, 6) 0 (some (10, 0, 6))) (11, 0, 0) 0 (some (9, 0, 6))) (9, 0, 7) 0 (some (10, 0, 7))) (11, 0, 0) 1 (some (9, 0, 7))) (9, 0, 8) 0 (some (10, 0, 8))) (11, 0, 0) 2 (some (9, 0, 8))) (9, 0, 9) 0 (some (10, 0, 9))) (11, 0, 0) 3 (some (9, 0, 9))) (9, 0, 10) 0 (some (10, 0, 10))) (11, 0, 0) 4 (some (9, 0, 10))) (9, 0, 11) 0 (some (10, 0, 11))) (11, 0, 0) 5 (some (9, 0, 11))) (7, 0, 0) 7 (some (12, 0, 0))) (9, 0, 2) 0 (some (10, 0, 2))) (12, 0, 0) 0 (some (9, 0, 2))) (9, 0, 3) 0 (some (10, 0, 3))) (12, 0, 0) 1 (some (9, 0, 3)))) R
  refine pg_43_101 rfl ?_
  refine pg_43_102 rfl ?_
  refine pg_43_103 (Nat.le_of_ble_eq_true rfl) (ct_61 (m := 6) (b := (10, 0, 4)) (rfl : (6 : Int32) = nI 6) (by decide) (en_a (by decide +kernel)) (en_k (by decide +kernel)) (en_ok (by decide +kernel))) ?_
  show xm_G (en 6 L) (d + 1) true 43 106 [some (xm_r (7, 0, 0)), some (xm_i (0 : Int32)), some (xm_i (6 : Int32)), some (xm_i (2 : Int32))] [xm_r (9, 0, 4), xm_i (2 : Int32), xm_r (12, 0, 0)] ((31, 155), (xm_up (xm_up (xm_up fi (7, 0, 0) 0 (0 : Int32)) (7, 0, 0) 1 (6 : Int32)) (8, 0, 0) 2 (sp_1 (6 : Int32))), fl, (xm_up (xm_up (xm_up (xm_up (xm_up (xm_up (xm_up (xm_up (xm_up (xm_up (xm_up (xm_up (xm_up (xm_up (xm_up (xm_up (xm_up (xm_up (xm_up (xm_up (xm_up (xm_up r (7, 0, 0) 4 (some (8, 0, 0))) (9, 0, 0) 0 (some (10, 0, 0))) (7, 0, 0) 5 (some (9, 0, 0))) (7, 0, 0) 6 (some (11, 0, 0))) (9, 0, 6) 0 (some (10, 0, 6))) (11, 0, 0) 0 (some (9, 0, 6))) (9, 0, 7) 0 (some (10, 0, 7))) (11, 0, 0) 1 (some (9, 0, 7))) (9, 0, 8) 0 (some (10, 0, 8))) (11, 0, 0) 2 (some (9, 0, 8))) (9, 0, 9) 0 (some (10, 0, 9))) (11, 0, 0) 3 (some (9, 0, 9))) (9, 0, 10) 0 (some (10, 0, 10))) (11, 0, 0) 4 (some (9, 0, 10))) (9, 0, 11) 0 (some (10, 0, 11))) (11, 0, 0) 5 (some (9, 0, 11))) (7, 0, 0) 7 (some (12, 0, 0))) (9, 0, 2) 0 (some (10, 0, 2))) (12, 0, 0) 0 (some (9, 0, 2))) (9, 0, 3) 0 (some (10, 0, 3))) (12, 0, 0) 1 (some (9, 0, 3))) (9, 0, 4) 0 (some (10, 0, 4)))) R
  refine pg_43_106 (en_ok (t := 4) (s := 0) (by decide +kernel)) (by decide) (by decide) (en_ok (s := 4) (by decide +kernel)) (i := 2) (rfl : (2 : Int32) = nI 2) (by decide) (by decide) ?_
  refine pg_43_107 (y := (3 : Int32)) (lv' := [some (xm_r (7, 0, 0)), some (xm_i (0 : Int32)), some (xm_i (6 : Int32)), some (xm_i (3 : Int32))]) rfl (by decide) rfl ?_
  refine pg_43_110 ?_
  refine pg_43_88 rfl ?_
  refine pg_43_89 ?_
  refine pg_43_90 (fun hc => absurd hc (by decide)) (fun _ => ?_)
  refine pg_43_93 rfl ?_
  refine pg_43_94 (en_ok (by decide +kernel)) rfl ?_
  refine pg_43_97 rfl ?_
  refine pg_43_98 (a := (9, 0, 5)) (en_a (by decide +kernel)) (en_k (by decide +kernel)) ?_
  show xm_G (en 6 L) (d + 1) true 43 101 [some (xm_r (7, 0, 0)), some (xm_i (0 : Int32)), some (xm_i (6 : Int32)), some (xm_i (3 : Int32))] [xm_r (9, 0, 5), xm_i (3 : Int32), xm_r (12, 0, 0)] ((32, 157), (xm_up (xm_up (xm_up fi (7, 0, 0) 0 (0 : Int32)) (7, 0, 0) 1 (6 : Int32)) (8, 0, 0) 2 (sp_1 (6 : Int32))), fl, (xm_up (xm_up (xm_up (xm_up (xm_up (xm_up (xm_up (xm_up (xm_up (xm_up (xm_up (xm_up (xm_up (xm_up (xm_up (xm_up (xm_up (xm_up (xm_up (xm_up (xm_up (xm_up (xm_up r (7, 0, 0) 4 (some (8, 0, 0))) (9, 0, 0) 0 (some (10, 0, 0))) (7, 0, 0) 5 (some (9, 0, 0))) (7, 0, 0) 6 (some (11, 0, 0))) (9, 0, 6) 0 (some (10, 0, 6))) (11, 0, 0) 0 (some (9, 0, 6))) (9, 0, 7) 0 (some (10, 0, 7))) (11, 0, 0) 1 (some (9, 0, 7))) (9, 0, 8) 0 (some (10, 0, 8))) (11, 0, 0) 2 (some (9, 0, 8))) (9, 0, 9) 0 (some (10, 0, 9))) (11, 0, 0) 3 (some (9, 0, 9))) (9, 0, 10) 0 (some (10, 0, 10))) (11, 0, 0) 4 (some (9, 0, 10))) (9, 0, 11) 0 (some (10, 0, 11))) (11, 0, 0) 5 (some (9, 0, 11))) (7, 0, 0) 7 (some (12, 0, 0))) (9, 0, 2) 0 (some (10, 0, 2))) (12, 0, 0) 0 (some (9, 0, 2))) (9, 0, 3) 0 (some (10, 0, 3))) (12, 0, 0) 1 (some (9, 0, 3))) (9, 0, 4) 0 (some (10, 0, 4))) (12, 0, 0) 2 (some (9, 0, 4)))) R
  refine pg_43_101 rfl ?_
  refine pg_43_102 rfl ?_
  refine pg_43_103 (Nat.le_of_ble_eq_true rfl) (ct_61 (m := 6) (b := (10, 0, 5)) (rfl : (6 : Int32) = nI 6) (by decide) (en_a (by decide +kernel)) (en_k (by decide +kernel)) (en_ok (by decide +kernel))) ?_
  show xm_G (en 6 L) (d + 1) true 43 106 [some (xm_r (7, 0, 0)), some (xm_i (0 : Int32)), some (xm_i (6 : Int32)), some (xm_i (3 : Int32))] [xm_r (9, 0, 5), xm_i (3 : Int32), xm_r (12, 0, 0)] ((33, 163), (xm_up (xm_up (xm_up fi (7, 0, 0) 0 (0 : Int32)) (7, 0, 0) 1 (6 : Int32)) (8, 0, 0) 2 (sp_1 (6 : Int32))), fl, (xm_up (xm_up (xm_up (xm_up (xm_up (xm_up (xm_up (xm_up (xm_up (xm_up (xm_up (xm_up (xm_up (xm_up (xm_up (xm_up (xm_up (xm_up (xm_up (xm_up (xm_up (xm_up (xm_up (xm_up r (7, 0, 0) 4 (some (8, 0, 0))) (9, 0, 0) 0 (some (10, 0, 0))) (7, 0, 0) 5 (some (9, 0, 0))) (7, 0, 0) 6 (some (11, 0, 0))) (9, 0, 6) 0 (some (10, 0, 6))) (11, 0, 0) 0 (some (9, 0, 6))) (9, 0, 7) 0 (some (10, 0, 7))) (11, 0, 0) 1 (some (9, 0, 7))) (9, 0, 8) 0 (some (10, 0, 8))) (11, 0, 0) 2 (some (9, 0, 8))) (9, 0, 9) 0 (some (10, 0, 9))) (11, 0, 0) 3 (some (9, 0, 9))) (9, 0, 10) 0 (some (10, 0, 10))) (11, 0, 0) 4 (some (9, 0, 10))) (9, 0, 11) 0 (some (10, 0, 11))) (11, 0, 0) 5 (some (9, 0, 11))) (7, 0, 0) 7 (some (12, 0, 0))) (9, 0, 2) 0 (some (10, 0, 2))) (12, 0, 0) 0 (some (9, 0, 2))) (9, 0, 3) 0 (some (10, 0, 3))) (12, 0, 0) 1 (some (9, 0, 3))) (9, 0, 4) 0 (some (10, 0, 4))) (12, 0, 0) 2 (some (9, 0, 4))) (9, 0, 5) 0 (some (10, 0, 5)))) R
  refine pg_43_106 (en_ok (t := 4) (s := 0) (by decide +kernel)) (by decide) (by decide) (en_ok (s := 4) (by decide +kernel)) (i := 3) (rfl : (3 : Int32) = nI 3) (by decide) (by decide) ?_
  refine pg_43_107 (y := (4 : Int32)) (lv' := [some (xm_r (7, 0, 0)), some (xm_i (0 : Int32)), some (xm_i (6 : Int32)), some (xm_i (4 : Int32))]) rfl (by decide) rfl ?_
  refine pg_43_110 ?_
  refine pg_43_88 rfl ?_
  refine pg_43_89 ?_
  refine pg_43_90 (fun _ => ?_) (fun hc => absurd (by decide) hc)
  refine pg_43_113 rfl ?_
  refine pg_43_114 (a := (9, 0, 1)) (en_a (by decide +kernel)) (en_k (by decide +kernel)) ?_
  show xm_G (en 6 L) (d + 1) true 43 117 [some (xm_r (7, 0, 0)), some (xm_i (0 : Int32)), some (xm_i (6 : Int32)), some (xm_i (4 : Int32))] [xm_r (9, 0, 1), xm_r (7, 0, 0)] ((34, 165), (xm_up (xm_up (xm_up fi (7, 0, 0) 0 (0 : Int32)) (7, 0, 0) 1 (6 : Int32)) (8, 0, 0) 2 (sp_1 (6 : Int32))), fl, (xm_up (xm_up (xm_up (xm_up (xm_up (xm_up (xm_up (xm_up (xm_up (xm_up (xm_up (xm_up (xm_up (xm_up (xm_up (xm_up (xm_up (xm_up (xm_up (xm_up (xm_up (xm_up (xm_up (xm_up (xm_up r (7, 0, 0) 4 (some (8, 0, 0))) (9, 0, 0) 0 (some (10, 0, 0))) (7, 0, 0) 5 (some (9, 0, 0))) (7, 0, 0) 6 (some (11, 0, 0))) (9, 0, 6) 0 (some (10, 0, 6))) (11, 0, 0) 0 (some (9, 0, 6))) (9, 0, 7) 0 (some (10, 0, 7))) (11, 0, 0) 1 (some (9, 0, 7))) (9, 0, 8) 0 (some (10, 0, 8))) (11, 0, 0) 2 (some (9, 0, 8))) (9, 0, 9) 0 (some (10, 0, 9))) (11, 0, 0) 3 (some (9, 0, 9))) (9, 0, 10) 0 (some (10, 0, 10))) (11, 0, 0) 4 (some (9, 0, 10))) (9, 0, 11) 0 (some (10, 0, 11))) (11, 0, 0) 5 (some (9, 0, 11))) (7, 0, 0) 7 (some (12, 0, 0))) (9, 0, 2) 0 (some (10, 0, 2))) (12, 0, 0) 0 (some (9, 0, 2))) (9, 0, 3) 0 (some (10, 0, 3))) (12, 0, 0) 1 (some (9, 0, 3))) (9, 0, 4) 0 (some (10, 0, 4))) (12, 0, 0) 2 (some (9, 0, 4))) (9, 0, 5) 0 (some (10, 0, 5))) (12, 0, 0) 3 (some (9, 0, 5)))) R
  refine pg_43_117 rfl ?_
  refine pg_43_118 rfl ?_
  refine pg_43_119 (Nat.le_of_ble_eq_true rfl) (ct_61 (m := 6) (b := (10, 0, 1)) (rfl : (6 : Int32) = nI 6) (by decide) (en_a (by decide +kernel)) (en_k (by decide +kernel)) (en_ok (by decide +kernel))) ?_
  show xm_G (en 6 L) (d + 1) true 43 122 [some (xm_r (7, 0, 0)), some (xm_i (0 : Int32)), some (xm_i (6 : Int32)), some (xm_i (4 : Int32))] [xm_r (9, 0, 1), xm_r (7, 0, 0)] ((35, 171), (xm_up (xm_up (xm_up fi (7, 0, 0) 0 (0 : Int32)) (7, 0, 0) 1 (6 : Int32)) (8, 0, 0) 2 (sp_1 (6 : Int32))), fl, (xm_up (xm_up (xm_up (xm_up (xm_up (xm_up (xm_up (xm_up (xm_up (xm_up (xm_up (xm_up (xm_up (xm_up (xm_up (xm_up (xm_up (xm_up (xm_up (xm_up (xm_up (xm_up (xm_up (xm_up (xm_up (xm_up r (7, 0, 0) 4 (some (8, 0, 0))) (9, 0, 0) 0 (some (10, 0, 0))) (7, 0, 0) 5 (some (9, 0, 0))) (7, 0, 0) 6 (some (11, 0, 0))) (9, 0, 6) 0 (some (10, 0, 6))) (11, 0, 0) 0 (some (9, 0, 6))) (9, 0, 7) 0 (some (10, 0, 7))) (11, 0, 0) 1 (some (9, 0, 7))) (9, 0, 8) 0 (some (10, 0, 8))) (11, 0, 0) 2 (some (9, 0, 8))) (9, 0, 9) 0 (some (10, 0, 9))) (11, 0, 0) 3 (some (9, 0, 9))) (9, 0, 10) 0 (some (10, 0, 10))) (11, 0, 0) 4 (some (9, 0, 10))) (9, 0, 11) 0 (some (10, 0, 11))) (11, 0, 0) 5 (some (9, 0, 11))) (7, 0, 0) 7 (some (12, 0, 0))) (9, 0, 2) 0 (some (10, 0, 2))) (12, 0, 0) 0 (some (9, 0, 2))) (9, 0, 3) 0 (some (10, 0, 3))) (12, 0, 0) 1 (some (9, 0, 3))) (9, 0, 4) 0 (some (10, 0, 4))) (12, 0, 0) 2 (some (9, 0, 4))) (9, 0, 5) 0 (some (10, 0, 5))) (12, 0, 0) 3 (some (9, 0, 5))) (9, 0, 1) 0 (some (10, 0, 1)))) R
  refine pg_43_122 (en_ok (by decide +kernel)) ?_
  refine pg_43_125 rfl ?_
  refine pg_43_126 rfl ?_
  refine pg_43_127 (n := 6) (rfl : (6 : Int32) = nI 6) (by decide) (en_a (a := (13, 0, 0)) (by decide +kernel)) (en_k (by decide +kernel)) ?_
  show xm_G (en 6 L) (d + 1) true 43 129 [some (xm_r (7, 0, 0)), some (xm_i (0 : Int32)), some (xm_i (6 : Int32)), some (xm_i (4 : Int32))] [xm_r (13, 0, 0), xm_r (7, 0, 0)] ((36, 177), (xm_up (xm_up (xm_up fi (7, 0, 0) 0 (0 : Int32)) (7, 0, 0) 1 (6 : Int32)) (8, 0, 0) 2 (sp_1 (6 : Int32))), fl, (xm_up (xm_up (xm_up (xm_up (xm_up (xm_up (xm_up (xm_up (xm_up (xm_up (xm_up (xm_up (xm_up (xm_up (xm_up (xm_up (xm_up (xm_up (xm_up (xm_up (xm_up (xm_up (xm_up (xm_up (xm_up (xm_up (xm_up r (7, 0, 0) 4 (some (8, 0, 0))) (9, 0, 0) 0 (some (10, 0, 0))) (7, 0, 0) 5 (some (9, 0, 0))) (7, 0, 0) 6 (some (11, 0, 0))) (9, 0, 6) 0 (some (10, 0, 6))) (11, 0, 0) 0 (some (9, 0, 6))) (9, 0, 7) 0 (some (10, 0, 7))) (11, 0, 0) 1 (some (9, 0, 7))) (9, 0, 8) 0 (some (10, 0, 8))) (11, 0, 0) 2 (some (9, 0, 8))) (9, 0, 9) 0 (some (10, 0, 9))) (11, 0, 0) 3 (some (9, 0, 9))) (9, 0, 10) 0 (some (10, 0, 10))) (11, 0, 0) 4 (some (9, 0, 10))) (9, 0, 11) 0 (some (10, 0, 11))) (11, 0, 0) 5 (some (9, 0, 11))) (7, 0, 0) 7 (some (12, 0, 0))) (9, 0, 2) 0 (some (10, 0, 2))) (12, 0, 0) 0 (some (9, 0, 2))) (9, 0, 3) 0 (some (10, 0, 3))) (12, 0, 0) 1 (some (9, 0, 3))) (9, 0, 4) 0 (some (10, 0, 4))) (12, 0, 0) 2 (some (9, 0, 4))) (9, 0, 5) 0 (some (10, 0, 5))) (12, 0, 0) 3 (some (9, 0, 5))) (9, 0, 1) 0 (some (10, 0, 1))) (7, 0, 0) 8 (some (9, 0, 1)))) R
  refine pg_43_129 (en_ok (by decide +kernel)) ?_
  exact go_eq hR.symm (pg_43_132)
def cf_43_6_1 (fi : FI) : FI := (xm_up (xm_up (xm_up fi (7, 1, 0) 0 (1 : Int32)) (7, 1, 0) 1 (6 : Int32)) (8, 1, 0) 2 (sp_1 (6 : Int32)))
def cr_43_6_1 (r : xm_I → Nat → Option xm_I) : xm_I → Nat → Option xm_I := (xm_up (xm_up (xm_up (xm_up (xm_up (xm_up (xm_up (xm_up (xm_up (xm_up (xm_up (xm_up (xm_up (xm_up (xm_up (xm_up (xm_up (xm_up (xm_up (xm_up (xm_up (xm_up (xm_up (xm_up (xm_up (xm_up (xm_up (xm_up r (7, 1, 0) 4 (some (8, 1, 0))) (9, 1, 0) 0 (some (10, 1, 0))) (7, 1, 0) 5 (some (9, 1, 0))) (7, 1, 0) 6 (some (11, 1, 0))) (9, 1, 6) 0 (some (10, 1, 6))) (11, 1, 0) 0 (some (9, 1, 6))) (9, 1, 7) 0 (some (10, 1, 7))) (11, 1, 0) 1 (some (9, 1, 7))) (9, 1, 8) 0 (some (10, 1, 8))) (11, 1, 0) 2 (some (9, 1, 8))) (9, 1, 9) 0 (some (10, 1, 9))) (11, 1, 0) 3 (some (9, 1, 9))) (9, 1, 10) 0 (some (10, 1, 10))) (11, 1, 0) 4 (some (9, 1, 10))) (9, 1, 11) 0 (some (10, 1, 11))) (11, 1, 0) 5 (some (9, 1, 11))) (7, 1, 0) 7 (some (12, 1, 0))) (9, 1, 2) 0 (some (10, 1, 2))) (12, 1, 0) 0 (some (9, 1, 2))) (9, 1, 3) 0 (some (10, 1, 3))) (12, 1, 0) 1 (some (9, 1, 3))) (9, 1, 4) 0 (some (10, 1, 4))) (12, 1, 0) 2 (some (9, 1, 4))) (9, 1, 5) 0 (some (10, 1, 5))) (12, 1, 0) 3 (some (9, 1, 5))) (9, 1, 1) 0 (some (10, 1, 1))) (7, 1, 0) 8 (some (9, 1, 1))) (7, 1, 0) 9 (some (13, 1, 0)))
set_option maxRecDepth 8000 in
theorem ct_43_6_1 {L : Nat} {fi : FI} {fl : FL} {r : xm_I → Nat → Option xm_I} {d : Nat} : xm_C (en 6 L) (d + 2) true 43 [xm_r (7, 1, 0), xm_i (1 : Int32), xm_i (6 : Int32)] ((37, 190), fi, fl, r) (.inl none, ((65, 306), cf_43_6_1 fi, fl, cr_43_6_1 r)) := by
  suffices key : ∀ (E : xm_E) (R : xm_O), E = en 6 L → ((.inl none, ((65, 306), cf_43_6_1 fi, fl, cr_43_6_1 r)) : xm_O) = R → xm_G (en 6 L) (d + 1) true 43 0 [some (xm_r (7, 1, 0)), some (xm_i (1 : Int32)), some (xm_i (6 : Int32)), none] [] ((37, 190), fi, fl, r) R from go_inr (by decide) (Nat.le_of_ble_eq_true rfl) (key _ _ rfl rfl)
  intro E R hE hR
  refine pg_43_0 rfl ?_
  refine pg_43_1 (Nat.le_of_ble_eq_true rfl) ?_
  refine pg_43_4 rfl ?_
  refine pg_43_5 rfl ?_
  refine pg_43_6 (en_ok (by decide +kernel)) ?_
  refine pg_43_9 rfl ?_
  refine pg_43_10 rfl ?_
  refine pg_43_11 (en_ok (by decide +kernel)) ?_
  refine pg_43_14 rfl ?_
  refine pg_43_15 ?_
  refine pg_43_16 (n := 4) (rfl : (4 : Int32) = nI 4) (by decide) (en_a (a := (8, 1, 0)) (by decide +kernel)) (en_k (by decide +kernel)) ?_
  show xm_G (en 6 L) (d + 1) true 43 18 [some (xm_r (7, 1, 0)), some (xm_i (1 : Int32)), some (xm_i (6 : Int32)), none] [xm_r (8, 1, 0), xm_r (7, 1, 0)] ((38, 194), (xm_up (xm_up fi (7, 1, 0) 0 (1 : Int32)) (7, 1, 0) 1 (6 : Int32)), fl, r) R
  refine pg_43_18 (en_ok (by decide +kernel)) ?_
  refine pg_43_21 rfl ?_
  refine pg_43_22 (en_ok (by decide +kernel)) rfl ?_
  refine pg_43_25 ?_
  refine pg_43_26 rfl ?_
  refine pg_43_27 (Nat.le_of_ble_eq_true rfl) (ct_1 (x := (6 : Int32))) ?_
  refine pg_43_30 (en_ok (s := 4) (by decide +kernel)) (i := 2) (rfl : (2 : Int32) = nI 2) (by omega) (by omega) ?_
  refine pg_43_31 rfl ?_
  refine pg_43_32 (a := (9, 1, 0)) (en_a (by decide +kernel)) (en_k (by decide +kernel)) ?_
  show xm_G (en 6 L) (d + 1) true 43 35 [some (xm_r (7, 1, 0)), some (xm_i (1 : Int32)), some (xm_i (6 : Int32)), none] [xm_r (9, 1, 0), xm_r (7, 1, 0)] ((39, 196), (xm_up (xm_up (xm_up fi (7, 1, 0) 0 (1 : Int32)) (7, 1, 0) 1 (6 : Int32)) (8, 1, 0) 2 (sp_1 (6 : Int32))), fl, (xm_up r (7, 1, 0) 4 (some (8, 1, 0)))) R
  refine pg_43_35 rfl ?_
  refine pg_43_36 rfl ?_
  refine pg_43_37 (Nat.le_of_ble_eq_true rfl) (ct_61 (m := 6) (b := (10, 1, 0)) (rfl : (6 : Int32) = nI 6) (by decide) (en_a (by decide +kernel)) (en_k (by decide +kernel)) (en_ok (by decide +kernel))) ?_
  show xm_G (en 6 L) (d + 1) true 43 40 [some (xm_r (7, 1, 0)), some (xm_i (1 : Int32)), some (xm_i (6 : Int32)), none] [xm_r (9, 1, 0), xm_r (7, 1, 0)] ((40, 202), (xm_up (xm_up (xm_up fi (7, 1, 0) 0 (1 : Int32)) (7, 1, 0) 1 (6 : Int32)) (8, 1, 0) 2 (sp_1 (6 : Int32))), fl, (xm_up (xm_up r (7, 1, 0) 4 (some (8, 1, 0))) (9, 1, 0) 0 (some (10, 1, 0)))) R
  refine pg_43_40 (en_ok (by decide +kernel)) ?_
  refine pg_43_43 rfl ?_
  refine pg_43_44 rfl ?_
  refine pg_43_45 (n := 6) (rfl : (6 : Int32) = nI 6) (by decide) (en_a (a := (11, 1, 0)) (by decide +kernel)) (en_k (by decide +kernel)) ?_
  show xm_G (en 6 L) (d + 1) true 43 48 [some (xm_r (7, 1, 0)), some (xm_i (1 : Int32)), some (xm_i (6 : Int32)), none] [xm_r (11, 1, 0), xm_r (7, 1, 0)] ((41, 208), (xm_up (xm_up (xm_up fi (7, 1, 0) 0 (1 : Int32)) (7, 1, 0) 1 (6 : Int32)) (8, 1, 0) 2 (sp_1 (6 : Int32))), fl, (xm_up (xm_up (xm_up r (7, 1, 0) 4 (some (8, 1, 0))) (9, 1, 0) 0 (some (10, 1, 0))) (7, 1, 0) 5 (some (9, 1, 0)))) R
  refine pg_43_48 (en_ok (by decide +kernel)) ?_
  refine pg_43_51 ?_
  refine pg_43_52 (lv' := [some (xm_r (7, 1, 0)), some (xm_i (1 : Int32)), some (xm_i (6 : Int32)), some (xm_i (0 : Int32))]) rfl ?_
  refine pg_43_53 rfl ?_
  refine pg_43_54 rfl ?_
  refine pg_43_55 (fun hc => absurd hc (by decide)) (fun _ => ?_)
  refine pg_43_58 rfl ?_
  refine pg_43_59 (en_ok (by decide +kernel)) rfl ?_
  refine pg_43_62 rfl ?_
  refine pg_43_63 (a := (9, 1, 6)) (en_a (by decide +kernel)) (en_k (by decide +kernel)) ?_
  show xm_G (en 6 L) (d + 1) true 43 66 [some (xm_r (7, 1, 0)), some (xm_i (1 : Int32)), some (xm_i (6 : Int32)), some (xm_i (0 : Int32))] [xm_r (9, 1, 6), xm_i (0 : Int32), xm_r (11, 1, 0)] ((42, 210), (xm_up (xm_up (xm_up fi (7, 1, 0) 0 (1 : Int32)) (7, 1, 0) 1 (6 : Int32)) (8, 1, 0) 2 (sp_1 (6 : Int32))), fl, (xm_up (xm_up (xm_up (xm_up r (7, 1, 0) 4 (some (8, 1, 0))) (9, 1, 0) 0 (some (10, 1, 0))) (7, 1, 0) 5 (some (9, 1, 0))) (7, 1, 0) 6 (some (11, 1, 0)))) R
  refine pg_43_66 rfl ?_
  refine pg_43_67 rfl ?_
  refine pg_43_68 (Nat.le_of_ble_eq_true rfl) (ct_61 (m := 6) (b := (10, 1, 6)) (rfl : (6 : Int32) = nI 6) (by decide) (en_a (by decide +kernel)) (en_k (by decide +kernel)) (en_ok (by decide +kernel))) ?_
  show xm_G (en 6 L) (d + 1) true 43 71 [some (xm_r (7, 1, 0)), some (xm_i (1 : Int32)), some (xm_i (6 : Int32)), some (xm_i (0 : Int32))] [xm_r (9, 1, 6), xm_i (0 : Int32), xm_r (11, 1, 0)] ((43, 216), (xm_up (xm_up (xm_up fi (7, 1, 0) 0 (1 : Int32)) (7, 1, 0) 1 (6 : Int32)) (8, 1, 0) 2 (sp_1 (6 : Int32))), fl, (xm_up (xm_up (xm_up (xm_up (xm_up r (7, 1, 0) 4 (some (8, 1, 0))) (9, 1, 0) 0 (some (10, 1, 0))) (7, 1, 0) 5 (some (9, 1, 0))) (7, 1, 0) 6 (some (11, 1, 0))) (9, 1, 6) 0 (some (10, 1, 6)))) R
  refine pg_43_71 (en_ok (t := 4) (s := 0) (by decide +kernel)) (by decide) (by decide) (en_ok (s := 6) (by decide +kernel)) (i := 0) (rfl : (0 : Int32) = nI 0) (by decide) (by decide) ?_
  refine pg_43_72 (y := (1 : Int32)) (lv' := [some (xm_r (7, 1, 0)), some (xm_i (1 : Int32)), some (xm_i (6 : Int32)), some (xm_i (1 : Int32))]) rfl (by decide) rfl ?_
  refine pg_43_75 ?_
  refine pg_43_53 rfl ?_
  refine pg_43_54 rfl ?_
  refine pg_43_55 (fun hc => absurd hc (by decide)) (fun _ => ?_)
  refine pg_43_58 rfl ?_
  refine pg_43_59 (en_ok (by decide +kernel)) rfl ?_
  refine pg_43_62 rfl ?_
  refine pg_43_63 (a := (9, 1, 7)) (en_a (by decide +kernel)) (en_k (by decide +kernel)) ?_
  show xm_G (en 6 L) (d + 1) true 43 66 [some (xm_r (7, 1, 0)), some (xm_i (1 : Int32)), some (xm_i (6 : Int32)), some (xm_i (1 : Int32))] [xm_r (9, 1, 7), xm_i (1 : Int32), xm_r (11, 1, 0)] ((44, 218), (xm_up (xm_up (xm_up fi (7, 1, 0) 0 (1 : Int32)) (7, 1, 0) 1 (6 : Int32)) (8, 1, 0) 2 (sp_1 (6 : Int32))), fl, (xm_up (xm_up (xm_up (xm_up (xm_up (xm_up r (7, 1, 0) 4 (some (8, 1, 0))) (9, 1, 0) 0 (some (10, 1, 0))) (7, 1, 0) 5 (some (9, 1, 0))) (7, 1, 0) 6 (some (11, 1, 0))) (9, 1, 6) 0 (some (10, 1, 6))) (11, 1, 0) 0 (some (9, 1, 6)))) R
  refine pg_43_66 rfl ?_
  refine pg_43_67 rfl ?_
  refine pg_43_68 (Nat.le_of_ble_eq_true rfl) (ct_61 (m := 6) (b := (10, 1, 7)) (rfl : (6 : Int32) = nI 6) (by decide) (en_a (by decide +kernel)) (en_k (by decide +kernel)) (en_ok (by decide +kernel))) ?_
  show xm_G (en 6 L) (d + 1) true 43 71 [some (xm_r (7, 1, 0)), some (xm_i (1 : Int32)), some (xm_i (6 : Int32)), some (xm_i (1 : Int32))] [xm_r (9, 1, 7), xm_i (1 : Int32), xm_r (11, 1, 0)] ((45, 224), (xm_up (xm_up (xm_up fi (7, 1, 0) 0 (1 : Int32)) (7, 1, 0) 1 (6 : Int32)) (8, 1, 0) 2 (sp_1 (6 : Int32))), fl, (xm_up (xm_up (xm_up (xm_up (xm_up (xm_up (xm_up r (7, 1, 0) 4 (some (8, 1, 0))) (9, 1, 0) 0 (some (10, 1, 0))) (7, 1, 0) 5 (some (9, 1, 0))) (7, 1, 0) 6 (some (11, 1, 0))) (9, 1, 6) 0 (some (10, 1, 6))) (11, 1, 0) 0 (some (9, 1, 6))) (9, 1, 7) 0 (some (10, 1, 7)))) R
  refine pg_43_71 (en_ok (t := 4) (s := 0) (by decide +kernel)) (by decide) (by decide) (en_ok (s := 6) (by decide +kernel)) (i := 1) (rfl : (1 : Int32) = nI 1) (by decide) (by decide) ?_
  refine pg_43_72 (y := (2 : Int32)) (lv' := [some (xm_r (7, 1, 0)), some (xm_i (1 : Int32)), some (xm_i (6 : Int32)), some (xm_i (2 : Int32))]) rfl (by decide) rfl ?_
  refine pg_43_75 ?_
  refine pg_43_53 rfl ?_
  refine pg_43_54 rfl ?_
  refine pg_43_55 (fun hc => absurd hc (by decide)) (fun _ => ?_)
  refine pg_43_58 rfl ?_
  refine pg_43_59 (en_ok (by decide +kernel)) rfl ?_
  refine pg_43_62 rfl ?_
  refine pg_43_63 (a := (9, 1, 8)) (en_a (by decide +kernel)) (en_k (by decide +kernel)) ?_
  show xm_G (en 6 L) (d + 1) true 43 66 [some (xm_r (7, 1, 0)), some (xm_i (1 : Int32)), some (xm_i (6 : Int32)), some (xm_i (2 : Int32))] [xm_r (9, 1, 8), xm_i (2 : Int32), xm_r (11, 1, 0)] ((46, 226), (xm_up (xm_up (xm_up fi (7, 1, 0) 0 (1 : Int32)) (7, 1, 0) 1 (6 : Int32)) (8, 1, 0) 2 (sp_1 (6 : Int32))), fl, (xm_up (xm_up (xm_up (xm_up (xm_up (xm_up (xm_up (xm_up r (7, 1, 0) 4 (some (8, 1, 0))) (9, 1, 0) 0 (some (10, 1, 0))) (7, 1, 0) 5 (some (9, 1, 0))) (7, 1, 0) 6 (some (11, 1, 0))) (9, 1, 6) 0 (some (10, 1, 6))) (11, 1, 0) 0 (some (9, 1, 6))) (9, 1, 7) 0 (some (10, 1, 7))) (11, 1, 0) 1 (some (9, 1, 7)))) R
  refine pg_43_66 rfl ?_
  refine pg_43_67 rfl ?_
  refine pg_43_68 (Nat.le_of_ble_eq_true rfl) (ct_61 (m := 6) (b := (10, 1, 8)) (rfl : (6 : Int32) = nI 6) (by decide) (en_a (by decide +kernel)) (en_k (by decide +kernel)) (en_ok (by decide +kernel))) ?_
  show xm_G (en 6 L) (d + 1) true 43 71 [some (xm_r (7, 1, 0)), some (xm_i (1 : Int32)), some (xm_i (6 : Int32)), some (xm_i (2 : Int32))] [xm_r (9, 1, 8), xm_i (2 : Int32), xm_r (11, 1, 0)] ((47, 232), (xm_up (xm_up (xm_up fi (7, 1, 0) 0 (1 : Int32)) (7, 1, 0) 1 (6 : Int32)) (8, 1, 0) 2 (sp_1 (6 : Int32))), fl, (xm_up (xm_up (xm_up (xm_up (xm_up (xm_up (xm_up (xm_up (xm_up r (7, 1, 0) 4 (some (8, 1, 0))) (9, 1, 0) 0 (some (10, 1, 0))) (7, 1, 0) 5 (some (9, 1, 0))) (7, 1, 0) 6 (some (11, 1, 0))) (9, 1, 6) 0 (some (10, 1, 6))) (11, 1, 0) 0 (some (9, 1, 6))) (9, 1, 7) 0 (some (10, 1, 7))) (11, 1, 0) 1 (some (9, 1, 7))) (9, 1, 8) 0 (some (10, 1, 8)))) R
  refine pg_43_71 (en_ok (t := 4) (s := 0) (by decide +kernel)) (by decide) (by decide) (en_ok (s := 6) (by decide +kernel)) (i := 2) (rfl : (2 : Int32) = nI 2) (by decide) (by decide) ?_
  refine pg_43_72 (y := (3 : Int32)) (lv' := [some (xm_r (7, 1, 0)), some (xm_i (1 : Int32)), some (xm_i (6 : Int32)), some (xm_i (3 : Int32))]) rfl (by decide) rfl ?_
  refine pg_43_75 ?_
  refine pg_43_53 rfl ?_
  refine pg_43_54 rfl ?_
  refine pg_43_55 (fun hc => absurd hc (by decide)) (fun _ => ?_)
  refine pg_43_58 rfl ?_
  refine pg_43_59 (en_ok (by decide +kernel)) rfl ?_
  refine pg_43_62 rfl ?_
  refine pg_43_63 (a := (9, 1, 9)) (en_a (by decide +kernel)) (en_k (by decide +kernel)) ?_
  show xm_G (en 6 L) (d + 1) true 43 66 [some (xm_r (7, 1, 0)), some (xm_i (1 : Int32)), some (xm_i (6 : Int32)), some (xm_i (3 : Int32))] [xm_r (9, 1, 9), xm_i (3 : Int32), xm_r (11, 1, 0)] ((48, 234), (xm_up (xm_up (xm_up fi (7, 1, 0) 0 (1 : Int32)) (7, 1, 0) 1 (6 : Int32)) (8, 1, 0) 2 (sp_1 (6 : Int32))), fl, (xm_up (xm_up (xm_up (xm_up (xm_up (xm_up (xm_up (xm_up (xm_up (xm_up r (7, 1, 0) 4 (some (8, 1, 0))) (9, 1, 0) 0 (some (10, 1, 0))) (7, 1, 0) 5 (some (9, 1, 0))) (7, 1, 0) 6 (some (11, 1, 0))) (9, 1, 6) 0 (some (10, 1, 6))) (11, 1, 0) 0 (some (9, 1, 6))) (9, 1, 7) 0 (some (10, 1, 7))) (11, 1, 0) 1 (some (9, 1, 7))) (9, 1, 8) 0 (some (10, 1, 8))) (11, 1, 0) 2 (some (9, 1, 8)))) R
  refine pg_43_66 rfl ?_
  refine pg_43_67 rfl ?_
  refine pg_43_68 (Nat.le_of_ble_eq_true rfl) (ct_61 (m := 6) (b := (10, 1, 9)) (rfl : (6 : Int32) = nI 6) (by decide) (en_a (by decide +kernel)) (en_k (by decide +kernel)) (en_ok (by decide +kernel))) ?_
  show xm_G (en 6 L) (d + 1) true 43 71 [some (xm_r (7, 1, 0)), some (xm_i (1 : Int32)), some (xm_i (6 : Int32)), some (xm_i (3 : Int32))] [xm_r (9, 1, 9), xm_i (3 : Int32), xm_r (11, 1, 0)] ((49, 240), (xm_up (xm_up (xm_up fi (7, 1, 0) 0 (1 : Int32)) (7, 1, 0) 1 (6 : Int32)) (8, 1, 0) 2 (sp_1 (6 : Int32))), fl, (xm_up (xm_up (xm_up (xm_up (xm_up (xm_up (xm_up (xm_up (xm_up (xm_up (xm_up r (7, 1, 0) 4 (some (8, 1, 0))) (9, 1, 0) 0 (some (10, 1, 0))) (7, 1, 0) 5 (some (9, 1, 0))) (7, 1, 0) 6 (some (11, 1, 0))) (9, 1, 6) 0 (some (10, 1, 6))) (11, 1, 0) 0 (some (9, 1, 6))) (9, 1, 7) 0 (some (10, 1, 7))) (11, 1, 0) 1 (some (9, 1, 7))) (9, 1, 8) 0 (some (10, 1, 8))) (11, 1, 0) 2 (some (9, 1, 8))) (9, 1, 9) 0 (some (10, 1, 9)))) R
  refine pg_43_71 (en_ok (t := 4) (s := 0) (by decide +kernel)) (by decide) (by decide) (en_ok (s := 6) (by decide +kernel)) (i := 3) (rfl : (3 : Int32) = nI 3) (by decide) (by decide) ?_
  refine pg_43_72 (y := (4 : Int32)) (lv' := [some (xm_r (7, 1, 0)), some (xm_i (1 : Int32)), some (xm_i (6 : Int32)), some (xm_i (4 : Int32))]) rfl (by decide) rfl ?_
  refine pg_43_75 ?_
  refine pg_43_53 rfl ?_
  refine pg_43_54 rfl ?_
  refine pg_43_55 (fun hc => absurd hc (by decide)) (fun _ => ?_)
  refine pg_43_58 rfl ?_
  refine pg_43_59 (en_ok (by decide +kernel)) rfl ?_
  refine pg_43_62 rfl ?_
  refine pg_43_63 (a := (9, 1, 10)) (en_a (by decide +kernel)) (en_k (by decide +kernel)) ?_
  show xm_G (en 6 L) (d + 1) true 43 66 [some (xm_r (7, 1, 0)), some (xm_i (1 : Int32)), some (xm_i (6 : Int32)), some (xm_i (4 : Int32))] [xm_r (9, 1, 10), xm_i (4 : Int32), xm_r (11, 1, 0)] ((50, 242), (xm_up (xm_up (xm_up fi (7, 1, 0) 0 (1 : Int32)) (7, 1, 0) 1 (6 : Int32)) (8, 1, 0) 2 (sp_1 (6 : Int32))), fl, (xm_up (xm_up (xm_up (xm_up (xm_up (xm_up (xm_up (xm_up (xm_up (xm_up (xm_up (xm_up r (7, 1, 0) 4 (some (8, 1, 0))) (9, 1, 0) 0 (some (10, 1, 0))) (7, 1, 0) 5 (some (9, 1, 0))) (7, 1, 0) 6 (some (11, 1, 0))) (9, 1, 6) 0 (some (10, 1, 6))) (11, 1, 0) 0 (some (9, 1, 6))) (9, 1, 7) 0 (some (10, 1, 7))) (11, 1, 0) 1 (some (9, 1, 7))) (9, 1, 8) 0 (some (10, 1, 8))) (11, 1, 0) 2 (some (9, 1, 8))) (9, 1, 9) 0 (some (10, 1, 9))) (11, 1, 0) 3 (some (9, 1, 9)))) R
  refine pg_43_66 rfl ?_
  refine pg_43_67 rfl ?_
  refine pg_43_68 (Nat.le_of_ble_eq_true rfl) (ct_61 (m := 6) (b := (10, 1, 10)) (rfl : (6 : Int32) = nI 6) (by decide) (en_a (by decide +kernel)) (en_k (by decide +kernel)) (en_ok (by decide +kernel))) ?_
  show xm_G (en 6 L) (d + 1) true 43 71 [some (xm_r (7, 1, 0)), some (xm_i (1 : Int32)), some (xm_i (6 : Int32)), some (xm_i (4 : Int32))] [xm_r (9, 1, 10), xm_i (4 : Int32), xm_r (11, 1, 0)] ((51, 248), (xm_up (xm_up (xm_up fi (7, 1, 0) 0 (1 : Int32)) (7, 1, 0) 1 (6 : Int32)) (8, 1, 0) 2 (sp_1 (6 : Int32))), fl, (xm_up (xm_up (xm_up (xm_up (xm_up (xm_up (xm_up (xm_up (xm_up (xm_up (xm_up (xm_up (xm_up r (7, 1, 0) 4 (some (8, 1, 0))) (9, 1, 0) 0 (some (10, 1, 0))) (7, 1, 0) 5 (some (9, 1, 0))) (7, 1, 0) 6 (some (11, 1, 0))) (9, 1, 6) 0 (some (10, 1, 6))) (11, 1, 0) 0 (some (9, 1, 6))) (9, 1, 7) 0 (some (10, 1, 7))) (11, 1, 0) 1 (some (9, 1, 7))) (9, 1, 8) 0 (some (10, 1, 8))) (11, 1, 0) 2 (some (9, 1, 8))) (9, 1, 9) 0 (some (10, 1, 9))) (11, 1, 0) 3 (some (9, 1, 9))) (9, 1, 10) 0 (some (10, 1, 10)))) R
  refine pg_43_71 (en_ok (t := 4) (s := 0) (by decide +kernel)) (by decide) (by decide) (en_ok (s := 6) (by decide +kernel)) (i := 4) (rfl : (4 : Int32) = nI 4) (by decide) (by decide) ?_
  refine pg_43_72 (y := (5 : Int32)) (lv' := [some (xm_r (7, 1, 0)), some (xm_i (1 : Int32)), some (xm_i (6 : Int32)), some (xm_i (5 : Int32))]) rfl (by decide) rfl ?_
  refine pg_43_75 ?_
  refine pg_43_53 rfl ?_
  refine pg_43_54 rfl ?_
  refine pg_43_55 (fun hc => absurd hc (by decide)) (fun _ => ?_)
  refine pg_43_58 rfl ?_
  refine pg_43_59 (en_ok (by decide +kernel)) rfl ?_
  refine pg_43_62 rfl ?_
  refine pg_43_63 (a := (9, 1, 11)) (en_a (by decide +kernel)) (en_k (by decide +kernel)) ?_
  show xm_G (en 6 L) (d + 1) true 43 66 [some (xm_r (7, 1, 0)), some (xm_i (1 : Int32)), some (xm_i (6 : Int32)), some (xm_i (5 : Int32))] [xm_r (9, 1, 11), xm_i (5 : Int32), xm_r (11, 1, 0)] ((52, 250), (xm_up (xm_up (xm_up fi (7, 1, 0) 0 (1 : Int32)) (7, 1, 0) 1 (6 : Int32)) (8, 1, 0) 2 (sp_1 (6 : Int32))), fl, (xm_up (xm_up (xm_up (xm_up (xm_up (xm_up (xm_up (xm_up (xm_up (xm_up (xm_up (xm_up (xm_up (xm_up r (7, 1, 0) 4 (some (8, 1, 0))) (9, 1, 0) 0 (some (10, 1, 0))) (7, 1, 0) 5 (some (9, 1, 0))) (7, 1, 0) 6 (some (11, 1, 0))) (9, 1, 6) 0 (some (10, 1, 6))) (11, 1, 0) 0 (some (9, 1, 6))) (9, 1, 7) 0 (some (10, 1, 7))) (11, 1, 0) 1 (some (9, 1, 7))) (9, 1, 8) 0 (some (10, 1, 8))) (11, 1, 0) 2 (some (9, 1, 8))) (9, 1, 9) 0 (some (10, 1, 9))) (11, 1, 0) 3 (some (9, 1, 9))) (9, 1, 10) 0 (some (10, 1, 10))) (11, 1, 0) 4 (some (9, 1, 10)))) R
  refine pg_43_66 rfl ?_
  refine pg_43_67 rfl ?_
  refine pg_43_68 (Nat.le_of_ble_eq_true rfl) (ct_61 (m := 6) (b := (10, 1, 11)) (rfl : (6 : Int32) = nI 6) (by decide) (en_a (by decide +kernel)) (en_k (by decide +kernel)) (en_ok (by decide +kernel))) ?_
  show xm_G (en 6 L) (d + 1) true 43 71 [some (xm_r (7, 1, 0)), some (xm_i (1 : Int32)), some (xm_i (6 : Int32)), some (xm_i (5 : Int32))] [xm_r (9, 1, 11), xm_i (5 : Int32), xm_r (11, 1, 0)] ((53, 256), (xm_up (xm_up (xm_up fi (7, 1, 0) 0 (1 : Int32)) (7, 1, 0) 1 (6 : Int32)) (8, 1, 0) 2 (sp_1 (6 : Int32))), fl, (xm_up (xm_up (xm_up (xm_up (xm_up (xm_up (xm_up (xm_up (xm_up (xm_up (xm_up (xm_up (xm_up (xm_up (xm_up r (7, 1, 0) 4 (some (8, 1, 0))) (9, 1, 0) 0 (some (10, 1, 0))) (7, 1, 0) 5 (some (9, 1, 0))) (7, 1, 0) 6 (some (11, 1, 0))) (9, 1, 6) 0 (some (10, 1, 6))) (11, 1, 0) 0 (some (9, 1, 6))) (9, 1, 7) 0 (some (10, 1, 7))) (11, 1, 0) 1 (some (9, 1, 7))) (9, 1, 8) 0 (some (10, 1, 8))) (11, 1, 0) 2 (some (9, 1, 8))) (9, 1, 9) 0 (some (10, 1, 9))) (11, 1, 0) 3 (some (9, 1, 9))) (9, 1, 10) 0 (some (10, 1, 10))) (11, 1, 0) 4 (some (9, 1, 10))) (9, 1, 11) 0 (some (10, 1, 11)))) R
  refine pg_43_71 (en_ok (t := 4) (s := 0) (by decide +kernel)) (by decide) (by decide) (en_ok (s := 6) (by decide +kernel)) (i := 5) (rfl : (5 : Int32) = nI 5) (by decide) (by decide) ?_
  refine pg_43_72 (y := (6 : Int32)) (lv' := [some (xm_r (7, 1, 0)), some (xm_i (1 : Int32)), some (xm_i (6 : Int32)), some (xm_i (6 : Int32))]) rfl (by decide) rfl ?_
  refine pg_43_75 ?_
  refine pg_43_53 rfl ?_
  refine pg_43_54 rfl ?_
  refine pg_43_55 (fun _ => ?_) (fun hc => absurd (by decide) hc)
  refine pg_43_78 rfl ?_
  refine pg_43_79 ?_
  refine pg_43_80 (n := 4) (rfl : (4 : Int32) = nI 4) (by decide) (en_a (a := (12, 1, 0)) (by decide +kernel)) (en_k (by decide +kernel)) ?_
  show xm_G (en 6 L) (d + 1) true 43 83 [some (xm_r (7, 1, 0)), some (xm_i (1 : Int32)), some (xm_i (6 : Int32)), some (xm_i (6 : Int32))] [xm_r (12, 1, 0), xm_r (7, 1, 0)] ((54, 260), (xm_up (xm_up (xm_up fi (7, 1, 0) 0 (1 : Int32)) (7, 1, 0) 1 (6 : Int32)) (8, 1, 0) 2 (sp_1 (6 : Int32))), fl, (xm_up (xm_up (xm_up (xm_up (xm_up (xm_up (xm_up (xm_up (xm_up (xm_up (xm_up (xm_up (xm_up (xm_up (xm_up (xm_up r (7, 1, 0) 4 (some (8, 1, 0))) (9, 1, 0) 0 (some (10, 1, 0))) (7, 1, 0) 5 (some (9, 1, 0))) (7, 1, 0) 6 (some (11, 1, 0))) (9, 1, 6) 0 (some (10, 1, 6))) (11, 1, 0) 0 (some (9, 1, 6))) (9, 1, 7) 0 (some (10, 1, 7))) (11, 1, 0) 1 (some (9, 1, 7))) (9, 1, 8) 0 (some (10, 1, 8))) (11, 1, 0) 2 (some (9, 1, 8))) (9, 1, 9) 0 (some (10, 1, 9))) (11, 1, 0) 3 (some (9, 1, 9))) (9, 1, 10) 0 (some (10, 1, 10))) (11, 1, 0) 4 (some (9, 1, 10))) (9, 1, 11) 0 (some (10, 1, 11))) (11, 1, 0) 5 (some (9, 1, 11)))) R
  refine pg_43_83 (en_ok (by decide +kernel)) ?_
  refine pg_43_86 ?_
  refine pg_43_87 (lv' := [some (xm_r (7, 1, 0)), some (xm_i (1 : Int32)), some (xm_i (6 : Int32)), some (xm_i (0 : Int32))]) rfl ?_
  refine pg_43_88 rfl ?_
  refine pg_43_89 ?_
  refine pg_43_90 (fun hc => absurd hc (by decide)) (fun _ => ?_)
  refine pg_43_93 rfl ?_
  refine pg_43_94 (en_ok (by decide +kernel)) rfl ?_
  refine pg_43_97 rfl ?_
  refine pg_43_98 (a := (9, 1, 2)) (en_a (by decide +kernel)) (en_k (by decide +kernel)) ?_
  show xm_G (en 6 L) (d + 1) true 43 101 [some (xm_r (7, 1, 0)), some (xm_i (1 : Int32)), some (xm_i (6 : Int32)), some (xm_i (0 : Int32))] [xm_r (9, 1, 2), xm_i (0 : Int32), xm_r (12, 1, 0)] ((55, 262), (xm_up (xm_up (xm_up fi (7, 1, 0) 0 (1 : Int32)) (7, 1, 0) 1 (6 : Int32)) (8, 1, 0) 2 (sp_1 (6 : Int32))), fl, (xm_up (xm_up (xm_up (xm_up (xm_up (xm_up (xm_up (xm_up (xm_up (xm_up (xm_up (xm_up (xm_up (xm_up (xm_up (xm_up (xm_up r (7, 1, 0) 4 (some (8, 1, 0))) (9, 1, 0) 0 (some (10, 1, 0))) (7, 1, 0) 5 (some (9, 1, 0))) (7, 1, 0) 6 (some (11, 1, 0))) (9, 1, 6) 0 (some (10, 1, 6))) (11, 1, 0) 0 (some (9, 1, 6))) (9, 1, 7) 0 (some (10, 1, 7))) (11, 1, 0) 1 (some (9, 1, 7))) (9, 1, 8) 0 (some (10, 1, 8))) (11, 1, 0) 2 (some (9, 1, 8))) (9, 1, 9) 0 (some (10, 1, 9))) (11, 1, 0) 3 (some (9, 1, 9))) (9, 1, 10) 0 (some (10, 1, 10))) (11, 1, 0) 4 (some (9, 1, 10))) (9, 1, 11) 0 (some (10, 1, 11))) (11, 1, 0) 5 (some (9, 1, 11))) (7, 1, 0) 7 (some (12, 1, 0)))) R
  refine pg_43_101 rfl ?_
  refine pg_43_102 rfl ?_
  refine pg_43_103 (Nat.le_of_ble_eq_true rfl) (ct_61 (m := 6) (b := (10, 1, 2)) (rfl : (6 : Int32) = nI 6) (by decide) (en_a (by decide +kernel)) (en_k (by decide +kernel)) (en_ok (by decide +kernel))) ?_
  show xm_G (en 6 L) (d + 1) true 43 106 [some (xm_r (7, 1, 0)), some (xm_i (1 : Int32)), some (xm_i (6 : Int32)), some (xm_i (0 : Int32))] [xm_r (9, 1, 2), xm_i (0 : Int32), xm_r (12, 1, 0)] ((56, 268), (xm_up (xm_up (xm_up fi (7, 1, 0) 0 (1 : Int32)) (7, 1, 0) 1 (6 : Int32)) (8, 1, 0) 2 (sp_1 (6 : Int32))), fl, (xm_up (xm_up (xm_up (xm_up (xm_up (xm_up (xm_up (xm_up (xm_up (xm_up (xm_up (xm_up (xm_up (xm_up (xm_up (xm_up (xm_up (xm_up r (7, 1, 0) 4 (some (8, 1, 0))) (9, 1, 0) 0 (some (10, 1, 0))) (7, 1, 0) 5 (some (9, 1, 0))) (7, 1, 0) 6 (some (11, 1, 0))) (9, 1, 6) 0 (some (10, 1, 6))) (11, 1, 0) 0 (some (9, 1, 6))) (9, 1, 7) 0 (some (10, 1, 7))) (11, 1, 0) 1 (some (9, 1, 7))) (9, 1, 8) 0 (some (10, 1, 8))) (11, 1, 0) 2 (some (9, 1, 8))) (9, 1, 9) 0 (some (10, 1, 9))) (11, 1, 0) 3 (some (9, 1, 9))) (9, 1, 10) 0 (some (10, 1, 10))) (11, 1, 0) 4 (some (9, 1, 10))) (9, 1, 11) 0 (some (10, 1, 11))) (11, 1, 0) 5 (some (9, 1, 11))) (7, 1, 0) 7 (some (12, 1, 0))) (9, 1, 2) 0 (some (10, 1, 2)))) R
  refine pg_43_106 (en_ok (t := 4) (s := 0) (by decide +kernel)) (by decide) (by decide) (en_ok (s := 4) (by decide +kernel)) (i := 0) (rfl : (0 : Int32) = nI 0) (by decide) (by decide) ?_
  refine pg_43_107 (y := (1 : Int32)) (lv' := [some (xm_r (7, 1, 0)), some (xm_i (1 : Int32)), some (xm_i (6 : Int32)), some (xm_i (1 : Int32))]) rfl (by decide) rfl ?_
  refine pg_43_110 ?_
  refine pg_43_88 rfl ?_
  refine pg_43_89 ?_
  refine pg_43_90 (fun hc => absurd hc (by decide)) (fun _ => ?_)
  refine pg_43_93 rfl ?_
  refine pg_43_94 (en_ok (by decide +kernel)) rfl ?_
  refine pg_43_97 rfl ?_
  refine pg_43_98 (a := (9, 1, 3)) (en_a (by decide +kernel)) (en_k (by decide +kernel)) ?_
  show xm_G (en 6 L) (d + 1) true 43 101 [some (xm_r (7, 1, 0)), some (xm_i (1 : Int32)), some (xm_i (6 : Int32)), some (xm_i (1 : Int32))] [xm_r (9, 1, 3), xm_i (1 : Int32), xm_r (12, 1, 0)] ((57, 270), (xm_up (xm_up (xm_up fi (7, 1, 0) 0 (1 : Int32)) (7, 1, 0) 1 (6 : Int32)) (8, 1, 0) 2 (sp_1 (6 : Int32))), fl, (xm_up (xm_up (xm_up (xm_up (xm_up (xm_up (xm_up (xm_up (xm_up (xm_up (xm_up (xm_up (xm_up (xm_up (xm_up (xm_up (xm_up (xm_up (xm_up r (7, 1, 0) 4 (some (8, 1, 0))) (9, 1, 0) 0 (some (10, 1, 0))) (7, 1, 0) 5 (some (9, 1, 0))) (7, 1, 0) 6 (some (11, 1, 0))) (9, 1, 6) 0 (some (10, 1, 6))) (11, 1, 0) 0 (some (9, 1, 6))) (9, 1, 7) 0 (some (10, 1, 7))) (11, 1, 0) 1 (some (9, 1, 7))) (9, 1, 8) 0 (some (10, 1, 8))) (11, 1, 0) 2 (some (9, 1, 8))) (9, 1, 9) 0 (some (10, 1, 9))) (11, 1, 0) 3 (some (9, 1, 9))) (9, 1, 10) 0 (some (10, 1, 10))) (11, 1, 0) 4 (some (9, 1, 10))) (9, 1, 11) 0 (some (10, 1, 11))) (11, 1, 0) 5 (some (9, 1, 11))) (7, 1, 0) 7 (some (12, 1, 0))) (9, 1, 2) 0 (some (10, 1, 2))) (12, 1, 0) 0 (some (9, 1, 2)))) R
  refine pg_43_101 rfl ?_
  refine pg_43_102 rfl ?_
  refine pg_43_103 (Nat.le_of_ble_eq_true rfl) (ct_61 (m := 6) (b := (10, 1, 3)) (rfl : (6 : Int32) = nI 6) (by decide) (en_a (by decide +kernel)) (en_k (by decide +kernel)) (en_ok (by decide +kernel))) ?_
  show xm_G (en 6 L) (d + 1) true 43 106 [some (xm_r (7, 1, 0)), some (xm_i (1 : Int32)), some (xm_i (6 : Int32)), some (xm_i (1 : Int32))] [xm_r (9, 1, 3), xm_i (1 : Int32), xm_r (12, 1, 0)] ((58, 276), (xm_up (xm_up (xm_up fi (7, 1, 0) 0 (1 : Int32)) (7, 1, 0) 1 (6 : Int32)) (8, 1, 0) 2 (sp_1 (6 : Int32))), fl, (xm_up (xm_up (xm_up (xm_up (xm_up (xm_up (xm_up (xm_up (xm_up (xm_up (xm_up (xm_up (xm_up (xm_up (xm_up (xm_up (xm_up (xm_up (xm_up (xm_up r (7, 1, 0) 4 (some (8, 1, 0))) (9, 1, 0) 0 (some (10, 1, 0))) (7, 1, 0) 5 (some (9, 1, 0))) (7, 1, 0) 6 (some (11, 1, 0))) (9, 1, 6) 0 (some (10, 1, 6))) (11, 1, 0) 0 (some (9, 1, 6))) (9, 1, 7) 0 (some (10, 1, 7))) (11, 1, 0) 1 (some (9, 1, 7))) (9, 1, 8) 0 (some (10, 1, 8))) (11, 1, 0) 2 (some (9, 1, 8))) (9, 1, 9) 0 (some (10, 1, 9))) (11, 1, 0) 3 (some (9, 1, 9))) (9, 1, 10) 0 (some (10, 1, 10))) (11, 1, 0) 4 (some (9, 1, 10))) (9, 1, 11) 0 (some (10, 1, 11))) (11, 1, 0) 5 (some (9, 1, 11))) (7, 1, 0) 7 (some (12, 1, 0))) (9, 1, 2) 0 (some (10, 1, 2))) (12, 1, 0) 0 (some (9, 1, 2))) (9, 1, 3) 0 (some (10, 1, 3)))) R
  refine pg_43_106 (en_ok (t := 4) (s := 0) (by decide +kernel)) (by decide) (by decide) (en_ok (s := 4) (by decide +kernel)) (i := 1) (rfl : (1 : Int32) = nI 1) (by decide) (by decide) ?_
  refine pg_43_107 (y := (2 : Int32)) (lv' := [some (xm_r (7, 1, 0)), some (xm_i (1 : Int32)), some (xm_i (6 : Int32)), some (xm_i (2 : Int32))]) rfl (by decide) rfl ?_
  refine pg_43_110 ?_
  refine pg_43_88 rfl ?_
  refine pg_43_89 ?_
  refine pg_43_90 (fun hc => absurd hc (by decide)) (fun _ => ?_)
  refine pg_43_93 rfl ?_
  refine pg_43_94 (en_ok (by decide +kernel)) rfl ?_
  refine pg_43_97 rfl ?_
  refine pg_43_98 (a := (9, 1, 4)) (en_a (by decide +kernel)) (en_k (by decide +kernel)) ?_
  show xm_G (en 6 L) (d + 1) true 43 101 [some (xm_r (7, 1, 0)), some (xm_i (1 : Int32)), some (xm_i (6 : Int32)), some (xm_i (2 : Int32))] [xm_r (9, 1, 4), xm_i (2 : Int32), xm_r (12, 1, 0)] ((59, 278), (xm_up (xm_up (xm_up fi (7, 1, 0) 0 (1 : Int32)) (7, 1, 0) 1 (6 : Int32)) (8, 1, 0) 2 (sp_1 (6 : Int32))), fl, (xm_up (xm_up (xm_up (xm_up (xm_up (xm_up (xm_up (xm_up (xm_up (xm_up (xm_up (xm_up (xm_up (xm_up (xm_up (xm_up (xm_up (xm_up (xm_up (xm_up (xm_up r (7, 1, 0) 4 (some (8, 1, 0))) (9, 1, 0) 0 (some (10, 1, 0))) (7, 1, 0) 5 (some (9, 1, 0))) (7, 1, 0) 6 (some (11, 1, 0))) (9, 1, 6) 0 (some (10, 1, 6))) (11, 1, 0) 0 (some (9, 1, 6))) (9, 1, 7) 0 (some (10, 1, 7))) (11, 1, 0) 1 (some (9, 1, 7))) (9, 1, 8) 0 (some (10, 1, 8))) (11, 1, 0) 2 (some (9, 1, 8))) (9, 1, 9) 0 (some (10, 1, 9))) (11, 1, 0) 3 (some (9, 1, 9))) (9, 1, 10) 0 (some (10, 1, 10))) (11, 1, 0) 4 (some (9, 1, 10))) (9, 1, 11) 0 (some (10, 1, 11))) (11, 1, 0) 5 (some (9, 1, 11))) (7, 1, 0) 7 (some (12, 1, 0))) (9, 1, 2) 0 (some (10, 1, 2))) (12, 1, 0) 0 (some (9, 1, 2))) (9, 1, 3) 0 (some (10, 1, 3))) (12, 1, 0) 1 (some (9, 1, 3)))) R
  refine pg_43_101 rfl ?_
  refine pg_43_102 rfl ?_
  refine pg_43_103 (Nat.le_of_ble_eq_true rfl) (ct_61 (m := 6) (b := (10, 1, 4)) (rfl : (6 : Int32) = nI 6) (by decide) (en_a (by decide +kernel)) (en_k (by decide +kernel)) (en_ok (by decide +kernel))) ?_
  show xm_G (en 6 L) (d + 1) true 43 106 [some (xm_r (7, 1, 0)), some (xm_i (1 : Int32)), some (xm_i (6 : Int32)), some (xm_i (2 : Int32))] [xm_r (9, 1, 4), xm_i (2 : Int32), xm_r (12, 1, 0)] ((60, 284), (xm_up (xm_up (xm_up fi (7, 1, 0) 0 (1 : Int32)) (7, 1, 0) 1 (6 : Int32)) (8, 1, 0) 2 (sp_1 (6 : Int32))), fl, (xm_up (xm_up (xm_up (xm_up (xm_up (xm_up (xm_up (xm_up (xm_up (xm_up (xm_up (xm_up (xm_up (xm_up (xm_up (xm_up (xm_up (xm_up (xm_up (xm_up (xm_up (xm_up r (7, 1, 0) 4 (some (8, 1, 0))) (9, 1, 0) 0 (some (10, 1, 0))) (7, 1, 0) 5 (some (9, 1, 0))) (7, 1, 0) 6 (some (11, 1, 0))) (9, 1, 6) 0 (some (10, 1, 6))) (11, 1, 0) 0 (some (9, 1, 6))) (9, 1, 7) 0 (some (10, 1, 7))) (11, 1, 0) 1 (some (9, 1, 7))) (9, 1, 8) 0 (some (10, 1, 8))) (11, 1, 0) 2 (some (9, 1, 8))) (9, 1, 9) 0 (some (10, 1, 9))) (11, 1, 0) 3 (some (9, 1, 9))) (9, 1, 10) 0 (some (10, 1, 10))) (11, 1, 0) 4 (some (9, 1, 10))) (9, 1, 11) 0 (some (10, 1, 11))) (11, 1, 0) 5 (some (9, 1, 11))) (7, 1, 0) 7 (some (12, 1, 0))) (9, 1, 2) 0 (some (10, 1, 2))) (12, 1, 0) 0 (some (9, 1, 2))) (9, 1, 3) 0 (some (10, 1, 3))) (12, 1, 0) 1 (some (9, 1, 3))) (9, 1, 4) 0 (some (10, 1, 4)))) R
  refine pg_43_106 (en_ok (t := 4) (s := 0) (by decide +kernel)) (by decide) (by decide) (en_ok (s := 4) (by decide +kernel)) (i := 2) (rfl : (2 : Int32) = nI 2) (by decide) (by decide) ?_
  refine pg_43_107 (y := (3 : Int32)) (lv' := [some (xm_r (7, 1, 0)), some (xm_i (1 : Int32)), some (xm_i (6 : Int32)), some (xm_i (3 : Int32))]) rfl (by decide) rfl ?_
  refine pg_43_110 ?_
  refine pg_43_88 rfl ?_
  refine pg_43_89 ?_
  refine pg_43_90 (fun hc => absurd hc (by decide)) (fun _ => ?_)
  refine pg_43_93 rfl ?_
  refine pg_43_94 (en_ok (by decide +kernel)) rfl ?_
  refine pg_43_97 rfl ?_
  refine pg_43_98 (a := (9, 1, 5)) (en_a (by decide +kernel)) (en_k (by decide +kernel)) ?_
  show xm_G (en 6 L) (d + 1) true 43 101 [some (xm_r (7, 1, 0)), some (xm_i (1 : Int32)), some (xm_i (6 : Int32)), some (xm_i (3 : Int32))] [xm_r (9, 1, 5), xm_i (3 : Int32), xm_r (12, 1, 0)] ((61, 286), (xm_up (xm_up (xm_up fi (7, 1, 0) 0 (1 : Int32)) (7, 1, 0) 1 (6 : Int32)) (8, 1, 0) 2 (sp_1 (6 : Int32))), fl, (xm_up (xm_up (xm_up (xm_up (xm_up (xm_up (xm_up (xm_up (xm_up (xm_up (xm_up (xm_up (xm_up (xm_up (xm_up (xm_up (xm_up (xm_up (xm_up (xm_up (xm_up (xm_up (xm_up r (7, 1, 0) 4 (some (8, 1, 0))) (9, 1, 0) 0 (some (10, 1, 0))) (7, 1, 0) 5 (some (9, 1, 0))) (7, 1, 0) 6 (some (11, 1, 0))) (9, 1, 6) 0 (some (10, 1, 6))) (11, 1, 0) 0 (some (9, 1, 6))) (9, 1, 7) 0 (some (10, 1, 7))) (11, 1, 0) 1 (some (9, 1, 7))) (9, 1, 8) 0 (some (10, 1, 8))) (11, 1, 0) 2 (some (9, 1, 8))) (9, 1, 9) 0 (some (10, 1, 9))) (11, 1, 0) 3 (some (9, 1, 9))) (9, 1, 10) 0 (some (10, 1, 10))) (11, 1, 0) 4 (some (9, 1, 10))) (9, 1, 11) 0 (some (10, 1, 11))) (11, 1, 0) 5 (some (9, 1, 11))) (7, 1, 0) 7 (some (12, 1, 0))) (9, 1, 2) 0 (some (10, 1, 2))) (12, 1, 0) 0 (some (9, 1, 2))) (9, 1, 3) 0 (some (10, 1, 3))) (12, 1, 0) 1 (some (9, 1, 3))) (9, 1, 4) 0 (some (10, 1, 4))) (12, 1, 0) 2 (some (9, 1, 4)))) R
  refine pg_43_101 rfl ?_
  refine pg_43_102 rfl ?_
  refine pg_43_103 (Nat.le_of_ble_eq_true rfl) (ct_61 (m := 6) (b := (10, 1, 5)) (rfl : (6 : Int32) = nI 6) (by decide) (en_a (by decide +kernel)) (en_k (by decide +kernel)) (en_ok (by decide +kernel))) ?_
  show xm_G (en 6 L) (d + 1) true 43 106 [some (xm_r (7, 1, 0)), some (xm_i (1 : Int32)), some (xm_i (6 : Int32)), some (xm_i (3 : Int32))] [xm_r (9, 1, 5), xm_i (3 : Int32), xm_r (12, 1, 0)] ((62, 292), (xm_up (xm_up (xm_up fi (7, 1, 0) 0 (1 : Int32)) (7, 1, 0) 1 (6 : Int32)) (8, 1, 0) 2 (sp_1 (6 : Int32))), fl, (xm_up (xm_up (xm_up (xm_up (xm_up (xm_up (xm_up (xm_up (xm_up (xm_up (xm_up (xm_up (xm_up (xm_up (xm_up (xm_up (xm_up (xm_up (xm_up (xm_up (xm_up (xm_up (xm_up (xm_up r (7, 1, 0) 4 (some (8, 1, 0))) (9, 1, 0) 0 (some (10, 1, 0))) (7, 1, 0) 5 (some (9, 1, 0))) (7, 1, 0) 6 (some (11, 1, 0))) (9, 1, 6) 0 (some (10, 1, 6))) (11, 1, 0) 0 (some (9, 1, 6))) (9, 1, 7) 0 (some (10, 1, 7))) (11, 1, 0) 1 (some (9, 1, 7))) (9, 1, 8) 0 (some (10, 1, 8))) (11, 1, 0) 2 (some (9, 1, 8))) (9, 1, 9) 0 (some (10, 1, 9))) (11, 1, 0) 3 (some (9, 1, 9))) (9, 1, 10) 0 (some (10, 1, 10))) (11, 1, 0) 4 (some (9, 1, 10))) (9, 1, 11) 0 (some (10, 1, 11))) (11, 1, 0) 5 (some (9, 1, 11))) (7, 1, 0) 7 (some (12, 1, 0))) (9, 1, 2) 0 (some (10, 1, 2))) (12, 1, 0) 0 (some (9, 1, 2))) (9, 1, 3) 0 (some (10, 1, 3))) (12, 1, 0) 1 (some (9, 1, 3))) (9, 1, 4) 0 (some (10, 1, 4))) (12, 1, 0) 2 (some (9, 1, 4))) (9, 1, 5) 0 (some (10, 1, 5)))) R
  refine pg_43_106 (en_ok (t := 4) (s := 0) (by decide +kernel)) (by decide) (by decide) (en_ok (s := 4) (by decide +kernel)) (i := 3) (rfl : (3 : Int32) = nI 3) (by decide) (by decide) ?_
  refine pg_43_107 (y := (4 : Int32)) (lv' := [some (xm_r (7, 1, 0)), some (xm_i (1 : Int32)), some (xm_i (6 : Int32)), some (xm_i (4 : Int32))]) rfl (by decide) rfl ?_
  refine pg_43_110 ?_
  refine pg_43_88 rfl ?_
  refine pg_43_89 ?_
  refine pg_43_90 (fun _ => ?_) (fun hc => absurd (by decide) hc)
  refine pg_43_113 rfl ?_
  refine pg_43_114 (a := (9, 1, 1)) (en_a (by decide +kernel)) (en_k (by decide +kernel)) ?_
  show xm_G (en 6 L) (d + 1) true 43 117 [some (xm_r (7, 1, 0)), some (xm_i (1 : Int32)), some (xm_i (6 : Int32)), some (xm_i (4 : Int32))] [xm_r (9, 1, 1), xm_r (7, 1, 0)] ((63, 294), (xm_up (xm_up (xm_up fi (7, 1, 0) 0 (1 : Int32)) (7, 1, 0) 1 (6 : Int32)) (8, 1, 0) 2 (sp_1 (6 : Int32))), fl, (xm_up (xm_up (xm_up (xm_up (xm_up (xm_up (xm_up (xm_up (xm_up (xm_up (xm_up (xm_up (xm_up (xm_up (xm_up (xm_up (xm_up (xm_up (xm_up (xm_up (xm_up (xm_up (xm_up (xm_up (xm_up r (7, 1, 0) 4 (some (8, 1, 0))) (9, 1, 0) 0 (some (10, 1, 0))) (7, 1, 0) 5 (some (9, 1, 0))) (7, 1, 0) 6 (some (11, 1, 0))) (9, 1, 6) 0 (some (10, 1, 6))) (11, 1, 0) 0 (some (9, 1, 6))) (9, 1, 7) 0 (some (10, 1, 7))) (11, 1, 0) 1 (some (9, 1, 7))) (9, 1, 8) 0 (some (10, 1, 8))) (11, 1, 0) 2 (some (9, 1, 8))) (9, 1, 9) 0 (some (10, 1, 9))) (11, 1, 0) 3 (some (9, 1, 9))) (9, 1, 10) 0 (some (10, 1, 10))) (11, 1, 0) 4 (some (9, 1, 10))) (9, 1, 11) 0 (some (10, 1, 11))) (11, 1, 0) 5 (some (9, 1, 11))) (7, 1, 0) 7 (some (12, 1, 0))) (9, 1, 2) 0 (some (10, 1, 2))) (12, 1, 0) 0 (some (9, 1, 2))) (9, 1, 3) 0 (some (10, 1, 3))) (12, 1, 0) 1 (some (9, 1, 3))) (9, 1, 4) 0 (some (10, 1, 4))) (12, 1, 0) 2 (some (9, 1, 4))) (9, 1, 5) 0 (some (10, 1, 5))) (12, 1, 0) 3 (some (9, 1, 5)))) R
  refine pg_43_117 rfl ?_
  refine pg_43_118 rfl ?_
  refine pg_43_119 (Nat.le_of_ble_eq_true rfl) (ct_61 (m := 6) (b := (10, 1, 1)) (rfl : (6 : Int32) = nI 6) (by decide) (en_a (by decide +kernel)) (en_k (by decide +kernel)) (en_ok (by decide +kernel))) ?_
  show xm_G (en 6 L) (d + 1) true 43 122 [some (xm_r (7, 1, 0)), some (xm_i (1 : Int32)), some (xm_i (6 : Int32)), some (xm_i (4 : Int32))] [xm_r (9, 1, 1), xm_r (7, 1, 0)] ((64, 300), (xm_up (xm_up (xm_up fi (7, 1, 0) 0 (1 : Int32)) (7, 1, 0) 1 (6 : Int32)) (8, 1, 0) 2 (sp_1 (6 : Int32))), fl, (xm_up (xm_up (xm_up (xm_up (xm_up (xm_up (xm_up (xm_up (xm_up (xm_up (xm_up (xm_up (xm_up (xm_up (xm_up (xm_up (xm_up (xm_up (xm_up (xm_up (xm_up (xm_up (xm_up (xm_up (xm_up (xm_up r (7, 1, 0) 4 (some (8, 1, 0))) (9, 1, 0) 0 (some (10, 1, 0))) (7, 1, 0) 5 (some (9, 1, 0))) (7, 1, 0) 6 (some (11, 1, 0))) (9, 1, 6) 0 (some (10, 1, 6))) (11, 1, 0) 0 (some (9, 1, 6))) (9, 1, 7) 0 (some (10, 1, 7))) (11, 1, 0) 1 (some (9, 1, 7))) (9, 1, 8) 0 (some (10, 1, 8))) (11, 1, 0) 2 (some (9, 1, 8))) (9, 1, 9) 0 (some (10, 1, 9))) (11, 1, 0) 3 (some (9, 1, 9))) (9, 1, 10) 0 (some (10, 1, 10))) (11, 1, 0) 4 (some (9, 1, 10))) (9, 1, 11) 0 (some (10, 1, 11))) (11, 1, 0) 5 (some (9, 1, 11))) (7, 1, 0) 7 (some (12, 1, 0))) (9, 1, 2) 0 (some (10, 1, 2))) (12, 1, 0) 0 (some (9, 1, 2))) (9, 1, 3) 0 (some (10, 1, 3))) (12, 1, 0) 1 (some (9, 1, 3))) (9, 1, 4) 0 (some (10, 1, 4))) (12, 1, 0) 2 (some (9, 1, 4))) (9, 1, 5) 0 (some (10, 1, 5))) (12, 1, 0) 3 (some (9, 1, 5))) (9, 1, 1) 0 (some (10, 1, 1)))) R
  refine pg_43_122 (en_ok (by decide +kernel)) ?_
  refine pg_43_125 rfl ?_
  refine pg_43_126 rfl ?_
  refine pg_43_127 (n := 6) (rfl : (6 : Int32) = nI 6) (by decide) (en_a (a := (13, 1, 0)) (by decide +kernel)) (en_k (by decide +kernel)) ?_
  show xm_G (en 6 L) (d + 1) true 43 129 [some (xm_r (7, 1, 0)), some (xm_i (1 : Int32)), some (xm_i (6 : Int32)), some (xm_i (4 : Int32))] [xm_r (13, 1, 0), xm_r (7, 1, 0)] ((65, 306), (xm_up (xm_up (xm_up fi (7, 1, 0) 0 (1 : Int32)) (7, 1, 0) 1 (6 : Int32)) (8, 1, 0) 2 (sp_1 (6 : Int32))), fl, (xm_up (xm_up (xm_up (xm_up (xm_up (xm_up (xm_up (xm_up (xm_up (xm_up (xm_up (xm_up (xm_up (xm_up (xm_up (xm_up (xm_up (xm_up (xm_up (xm_up (xm_up (xm_up (xm_up (xm_up (xm_up (xm_up (xm_up r (7, 1, 0) 4 (some (8, 1, 0))) (9, 1, 0) 0 (some (10, 1, 0))) (7, 1, 0) 5 (some (9, 1, 0))) (7, 1, 0) 6 (some (11, 1, 0))) (9, 1, 6) 0 (some (10, 1, 6))) (11, 1, 0) 0 (some (9, 1, 6))) (9, 1, 7) 0 (some (10, 1, 7))) (11, 1, 0) 1 (some (9, 1, 7))) (9, 1, 8) 0 (some (10, 1, 8))) (11, 1, 0) 2 (some (9, 1, 8))) (9, 1, 9) 0 (some (10, 1, 9))) (11, 1, 0) 3 (some (9, 1, 9))) (9, 1, 10) 0 (some (10, 1, 10))) (11, 1, 0) 4 (some (9, 1, 10))) (9, 1, 11) 0 (some (10, 1, 11))) (11, 1, 0) 5 (some (9, 1, 11))) (7, 1, 0) 7 (some (12, 1, 0))) (9, 1, 2) 0 (some (10, 1, 2))) (12, 1, 0) 0 (some (9, 1, 2))) (9, 1, 3) 0 (some (10, 1, 3))) (12, 1, 0) 1 (some (9, 1, 3))) (9, 1, 4) 0 (some (10, 1, 4))) (12, 1, 0) 2 (some (9, 1, 4))) (9, 1, 5) 0 (some (10, 1, 5))) (12, 1, 0) 3 (some (9, 1, 5))) (9, 1, 1) 0 (some (10, 1, 1))) (7, 1, 0) 8 (some (9, 1, 1)))) R
  refine pg_43_129 (en_ok (by decide +kernel)) ?_
  exact go_eq hR.symm (pg_43_132)
def cf_43_6_2 (fi : FI) : FI := (xm_up (xm_up (xm_up fi (7, 2, 0) 0 (2 : Int32)) (7, 2, 0) 1 (6 : Int32)) (8, 2, 0) 2 (sp_1 (6 : Int32)))
def cr_43_6_2 (r : xm_I → Nat → Option xm_I) : xm_I → Nat → Option xm_I := (xm_up (xm_up (xm_up (xm_up (xm_up (xm_up (xm_up (xm_up (xm_up (xm_up (xm_up (xm_up (xm_up (xm_up (xm_up (xm_up (xm_up (xm_up (xm_up (xm_up (xm_up (xm_up (xm_up (xm_up (xm_up (xm_up (xm_up (xm_up r (7, 2, 0) 4 (some (8, 2, 0))) (9, 2, 0) 0 (some (10, 2, 0))) (7, 2, 0) 5 (some (9, 2, 0))) (7, 2, 0) 6 (some (11, 2, 0))) (9, 2, 6) 0 (some (10, 2, 6))) (11, 2, 0) 0 (some (9, 2, 6))) (9, 2, 7) 0 (some (10, 2, 7))) (11, 2, 0) 1 (some (9, 2, 7))) (9, 2, 8) 0 (some (10, 2, 8))) (11, 2, 0) 2 (some (9, 2, 8))) (9, 2, 9) 0 (some (10, 2, 9))) (11, 2, 0) 3 (some (9, 2, 9))) (9, 2, 10) 0 (some (10, 2, 10))) (11, 2, 0) 4 (some (9, 2, 10))) (9, 2, 11) 0 (some (10, 2, 11))) (11, 2, 0) 5 (some (9, 2, 11))) (7, 2, 0) 7 (some (12, 2, 0))) (9, 2, 2) 0 (some (10, 2, 2))) (12, 2, 0) 0 (some (9, 2, 2))) (9, 2, 3) 0 (some (10, 2, 3))) (12, 2, 0) 1 (some (9, 2, 3))) (9, 2, 4) 0 (some (10, 2, 4))) (12, 2, 0) 2 (some (9, 2, 4))) (9, 2, 5) 0 (some (10, 2, 5))) (12, 2, 0) 3 (some (9, 2, 5))) (9, 2, 1) 0 (some (10, 2, 1))) (7, 2, 0) 8 (some (9, 2, 1))) (7, 2, 0) 9 (some (13, 2, 0)))
set_option maxRecDepth 8000 in
theorem ct_43_6_2 {L : Nat} {fi : FI} {fl : FL} {r : xm_I → Nat → Option xm_I} {d : Nat} : xm_C (en 6 L) (d + 2) true 43 [xm_r (7, 2, 0), xm_i (2 : Int32), xm_i (6 : Int32)] ((66, 319), fi, fl, r) (.inl none, ((94, 435), cf_43_6_2 fi, fl, cr_43_6_2 r)) := by
  suffices key : ∀ (E : xm_E) (R : xm_O), E = en 6 L → ((.inl none, ((94, 435), cf_43_6_2 fi, fl, cr_43_6_2 r)) : xm_O) = R → xm_G (en 6 L) (d + 1) true 43 0 [some (xm_r (7, 2, 0)), some (xm_i (2 : Int32)), some (xm_i (6 : Int32)), none] [] ((66, 319), fi, fl, r) R from go_inr (by decide) (Nat.le_of_ble_eq_true rfl) (key _ _ rfl rfl)
  intro E R hE hR
  refine pg_43_0 rfl ?_
  refine pg_43_1 (Nat.le_of_ble_eq_true rfl) ?_
  refine pg_43_4 rfl ?_
  refine pg_43_5 rfl ?_
  refine pg_43_6 (en_ok (by decide +kernel)) ?_
  refine pg_43_9 rfl ?_
  refine pg_43_10 rfl ?_
  refine pg_43_11 (en_ok (by decide +kernel)) ?_
  refine pg_43_14 rfl ?_
  refine pg_43_15 ?_
  refine pg_43_16 (n := 4) (rfl : (4 : Int32) = nI 4) (by decide) (en_a (a := (8, 2, 0)) (by decide +kernel)) (en_k (by decide +kernel)) ?_
  show xm_G (en 6 L) (d + 1) true 43 18 [some (xm_r (7, 2, 0)), some (xm_i (2 : Int32)), some (xm_i (6 : Int32)), none] [xm_r (8, 2, 0), xm_r (7, 2, 0)] ((67, 323), (xm_up (xm_up fi (7, 2, 0) 0 (2 : Int32)) (7, 2, 0) 1 (6 : Int32)), fl, r) R
  refine pg_43_18 (en_ok (by decide +kernel)) ?_
  refine pg_43_21 rfl ?_
  refine pg_43_22 (en_ok (by decide +kernel)) rfl ?_
  refine pg_43_25 ?_
  refine pg_43_26 rfl ?_
  refine pg_43_27 (Nat.le_of_ble_eq_true rfl) (ct_1 (x := (6 : Int32))) ?_
  refine pg_43_30 (en_ok (s := 4) (by decide +kernel)) (i := 2) (rfl : (2 : Int32) = nI 2) (by omega) (by omega) ?_
  refine pg_43_31 rfl ?_
  refine pg_43_32 (a := (9, 2, 0)) (en_a (by decide +kernel)) (en_k (by decide +kernel)) ?_
  show xm_G (en 6 L) (d + 1) true 43 35 [some (xm_r (7, 2, 0)), some (xm_i (2 : Int32)), some (xm_i (6 : Int32)), none] [xm_r (9, 2, 0), xm_r (7, 2, 0)] ((68, 325), (xm_up (xm_up (xm_up fi (7, 2, 0) 0 (2 : Int32)) (7, 2, 0) 1 (6 : Int32)) (8, 2, 0) 2 (sp_1 (6 : Int32))), fl, (xm_up r (7, 2, 0) 4 (some (8, 2, 0)))) R
  refine pg_43_35 rfl ?_
  refine pg_43_36 rfl ?_
  refine pg_43_37 (Nat.le_of_ble_eq_true rfl) (ct_61 (m := 6) (b := (10, 2, 0)) (rfl : (6 : Int32) = nI 6) (by decide) (en_a (by decide +kernel)) (en_k (by decide +kernel)) (en_ok (by decide +kernel))) ?_
  show xm_G (en 6 L) (d + 1) true 43 40 [some (xm_r (7, 2, 0)), some (xm_i (2 : Int32)), some (xm_i (6 : Int32)), none] [xm_r (9, 2, 0), xm_r (7, 2, 0)] ((69, 331), (xm_up (xm_up (xm_up fi (7, 2, 0) 0 (2 : Int32)) (7, 2, 0) 1 (6 : Int32)) (8, 2, 0) 2 (sp_1 (6 : Int32))), fl, (xm_up (xm_up r (7, 2, 0) 4 (some (8, 2, 0))) (9, 2, 0) 0 (some (10, 2, 0)))) R
  refine pg_43_40 (en_ok (by decide +kernel)) ?_
  refine pg_43_43 rfl ?_
  refine pg_43_44 rfl ?_
  refine pg_43_45 (n := 6) (rfl : (6 : Int32) = nI 6) (by decide) (en_a (a := (11, 2, 0)) (by decide +kernel)) (en_k (by decide +kernel)) ?_
  show xm_G (en 6 L) (d + 1) true 43 48 [some (xm_r (7, 2, 0)), some (xm_i (2 : Int32)), some (xm_i (6 : Int32)), none] [xm_r (11, 2, 0), xm_r (7, 2, 0)] ((70, 337), (xm_up (xm_up (xm_up fi (7, 2, 0) 0 (2 : Int32)) (7, 2, 0) 1 (6 : Int32)) (8, 2, 0) 2 (sp_1 (6 : Int32))), fl, (xm_up (xm_up (xm_up r (7, 2, 0) 4 (some (8, 2, 0))) (9, 2, 0) 0 (some (10, 2, 0))) (7, 2, 0) 5 (some (9, 2, 0)))) R
  refine pg_43_48 (en_ok (by decide +kernel)) ?_
  refine pg_43_51 ?_
  refine pg_43_52 (lv' := [some (xm_r (7, 2, 0)), some (xm_i (2 : Int32)), some (xm_i (6 : Int32)), some (xm_i (0 : Int32))]) rfl ?_
  refine pg_43_53 rfl ?_
  refine pg_43_54 rfl ?_
  refine pg_43_55 (fun hc => absurd hc (by decide)) (fun _ => ?_)
  refine pg_43_58 rfl ?_
  refine pg_43_59 (en_ok (by decide +kernel)) rfl ?_
  refine pg_43_62 rfl ?_
  refine pg_43_63 (a := (9, 2, 6)) (en_a (by decide +kernel)) (en_k (by decide +kernel)) ?_
  show xm_G (en 6 L) (d + 1) true 43 66 [some (xm_r (7, 2, 0)), some (xm_i (2 : Int32)), some (xm_i (6 : Int32)), some (xm_i (0 : Int32))] [xm_r (9, 2, 6), xm_i (0 : Int32), xm_r (11, 2, 0)] ((71, 339), (xm_up (xm_up (xm_up fi (7, 2, 0) 0 (2 : Int32)) (7, 2, 0) 1 (6 : Int32)) (8, 2, 0) 2 (sp_1 (6 : Int32))), fl, (xm_up (xm_up (xm_up (xm_up r (7, 2, 0) 4 (some (8, 2, 0))) (9, 2, 0) 0 (some (10, 2, 0))) (7, 2, 0) 5 (some (9, 2, 0))) (7, 2, 0) 6 (some (11, 2, 0)))) R
  refine pg_43_66 rfl ?_
  refine pg_43_67 rfl ?_
  refine pg_43_68 (Nat.le_of_ble_eq_true rfl) (ct_61 (m := 6) (b := (10, 2, 6)) (rfl : (6 : Int32) = nI 6) (by decide) (en_a (by decide +kernel)) (en_k (by decide +kernel)) (en_ok (by decide +kernel))) ?_
  show xm_G (en 6 L) (d + 1) true 43 71 [some (xm_r (7, 2, 0)), some (xm_i (2 : Int32)), some (xm_i (6 : Int32)), some (xm_i (0 : Int32))] [xm_r (9, 2, 6), xm_i (0 : Int32), xm_r (11, 2, 0)] ((72, 345), (xm_up (xm_up (xm_up fi (7, 2, 0) 0 (2 : Int32)) (7, 2, 0) 1 (6 : Int32)) (8, 2, 0) 2 (sp_1 (6 : Int32))), fl, (xm_up (xm_up (xm_up (xm_up (xm_up r (7, 2, 0) 4 (some (8, 2, 0))) (9, 2, 0) 0 (some (10, 2, 0))) (7, 2, 0) 5 (some (9, 2, 0))) (7, 2, 0) 6 (some (11, 2, 0))) (9, 2, 6) 0 (some (10, 2, 6)))) R
  refine pg_43_71 (en_ok (t := 4) (s := 0) (by decide +kernel)) (by decide) (by decide) (en_ok (s := 6) (by decide +kernel)) (i := 0) (rfl : (0 : Int32) = nI 0) (by decide) (by decide) ?_
  refine pg_43_72 (y := (1 : Int32)) (lv' := [some (xm_r (7, 2, 0)), some (xm_i (2 : Int32)), some (xm_i (6 : Int32)), some (xm_i (1 : Int32))]) rfl (by decide) rfl ?_
  refine pg_43_75 ?_
  refine pg_43_53 rfl ?_
  refine pg_43_54 rfl ?_
  refine pg_43_55 (fun hc => absurd hc (by decide)) (fun _ => ?_)
  refine pg_43_58 rfl ?_
  refine pg_43_59 (en_ok (by decide +kernel)) rfl ?_
  refine pg_43_62 rfl ?_
  refine pg_43_63 (a := (9, 2, 7)) (en_a (by decide +kernel)) (en_k (by decide +kernel)) ?_
  show xm_G (en 6 L) (d + 1) true 43 66 [some (xm_r (7, 2, 0)), some (xm_i (2 : Int32)), some (xm_i (6 : Int32)), some (xm_i (1 : Int32))] [xm_r (9, 2, 7), xm_i (1 : Int32), xm_r (11, 2, 0)] ((73, 347), (xm_up (xm_up (xm_up fi (7, 2, 0) 0 (2 : Int32)) (7, 2, 0) 1 (6 : Int32)) (8, 2, 0) 2 (sp_1 (6 : Int32))), fl, (xm_up (xm_up (xm_up (xm_up (xm_up (xm_up r (7, 2, 0) 4 (some (8, 2, 0))) (9, 2, 0) 0 (some (10, 2, 0))) (7, 2, 0) 5 (some (9, 2, 0))) (7, 2, 0) 6 (some (11, 2, 0))) (9, 2, 6) 0 (some (10, 2, 6))) (11, 2, 0) 0 (some (9, 2, 6)))) R
  refine pg_43_66 rfl ?_
  refine pg_43_67 rfl ?_
  refine pg_43_68 (Nat.le_of_ble_eq_true rfl) (ct_61 (m := 6) (b := (10, 2, 7)) (rfl : (6 : Int32) = nI 6) (by decide) (en_a (by decide +kernel)) (en_k (by decide +kernel)) (en_ok (by decide +kernel))) ?_
  show xm_G (en 6 L) (d + 1) true 43 71 [some (xm_r (7, 2, 0)), some (xm_i (2 : Int32)), some (xm_i (6 : Int32)), some (xm_i (1 : Int32))] [xm_r (9, 2, 7), xm_i (1 : Int32), xm_r (11, 2, 0)] ((74, 353), (xm_up (xm_up (xm_up fi (7, 2, 0) 0 (2 : Int32)) (7, 2, 0) 1 (6 : Int32)) (8, 2, 0) 2 (sp_1 (6 : Int32))), fl, (xm_up (xm_up (xm_up (xm_up (xm_up (xm_up (xm_up r (7, 2, 0) 4 (some (8, 2, 0))) (9, 2, 0) 0 (some (10, 2, 0))) (7, 2, 0) 5 (some (9, 2, 0))) (7, 2, 0) 6 (some (11, 2, 0))) (9, 2, 6) 0 (some (10, 2, 6))) (11, 2, 0) 0 (some (9, 2, 6))) (9, 2, 7) 0 (some (10, 2, 7)))) R
  refine pg_43_71 (en_ok (t := 4) (s := 0) (by decide +kernel)) (by decide) (by decide) (en_ok (s := 6) (by decide +kernel)) (i := 1) (rfl : (1 : Int32) = nI 1) (by decide) (by decide) ?_
  refine pg_43_72 (y := (2 : Int32)) (lv' := [some (xm_r (7, 2, 0)), some (xm_i (2 : Int32)), some (xm_i (6 : Int32)), some (xm_i (2 : Int32))]) rfl (by decide) rfl ?_
  refine pg_43_75 ?_
  refine pg_43_53 rfl ?_
  refine pg_43_54 rfl ?_
  refine pg_43_55 (fun hc => absurd hc (by decide)) (fun _ => ?_)
  refine pg_43_58 rfl ?_
  refine pg_43_59 (en_ok (by decide +kernel)) rfl ?_
  refine pg_43_62 rfl ?_
  refine pg_43_63 (a := (9, 2, 8)) (en_a (by decide +kernel)) (en_k (by decide +kernel)) ?_
  show xm_G (en 6 L) (d + 1) true 43 66 [some (xm_r (7, 2, 0)), some (xm_i (2 : Int32)), some (xm_i (6 : Int32)), some (xm_i (2 : Int32))] [xm_r (9, 2, 8), xm_i (2 : Int32), xm_r (11, 2, 0)] ((75, 355), (xm_up (xm_up (xm_up fi (7, 2, 0) 0 (2 : Int32)) (7, 2, 0) 1 (6 : Int32)) (8, 2, 0) 2 (sp_1 (6 : Int32))), fl, (xm_up (xm_up (xm_up (xm_up (xm_up (xm_up (xm_up (xm_up r (7, 2, 0) 4 (some (8, 2, 0))) (9, 2, 0) 0 (some (10, 2, 0))) (7, 2, 0) 5 (some (9, 2, 0))) (7, 2, 0) 6 (some (11, 2, 0))) (9, 2, 6) 0 (some (10, 2, 6))) (11, 2, 0) 0 (some (9, 2, 6))) (9, 2, 7) 0 (some (10, 2, 7))) (11, 2, 0) 1 (some (9, 2, 7)))) R
  refine pg_43_66 rfl ?_
  refine pg_43_67 rfl ?_
  refine pg_43_68 (Nat.le_of_ble_eq_true rfl) (ct_61 (m := 6) (b := (10, 2, 8)) (rfl : (6 : Int32) = nI 6) (by decide) (en_a (by decide +kernel)) (en_k (by decide +kernel)) (en_ok (by decide +kernel))) ?_
  show xm_G (en 6 L) (d + 1) true 43 71 [some (xm_r (7, 2, 0)), some (xm_i (2 : Int32)), some (xm_i (6 : Int32)), some (xm_i (2 : Int32))] [xm_r (9, 2, 8), xm_i (2 : Int32), xm_r (11, 2, 0)] ((76, 361), (xm_up (xm_up (xm_up fi (7, 2, 0) 0 (2 : Int32)) (7, 2, 0) 1 (6 : Int32)) (8, 2, 0) 2 (sp_1 (6 : Int32))), fl, (xm_up (xm_up (xm_up (xm_up (xm_up (xm_up (xm_up (xm_up (xm_up r (7, 2, 0) 4 (some (8, 2, 0))) (9, 2, 0) 0 (some (10, 2, 0))) (7, 2, 0) 5 (some (9, 2, 0))) (7, 2, 0) 6 (some (11, 2, 0))) (9, 2, 6) 0 (some (10, 2, 6))) (11, 2, 0) 0 (some (9, 2, 6))) (9, 2, 7) 0 (some (10, 2, 7))) (11, 2, 0) 1 (some (9, 2, 7))) (9, 2, 8) 0 (some (10, 2, 8)))) R
  refine pg_43_71 (en_ok (t := 4) (s := 0) (by decide +kernel)) (by decide) (by decide) (en_ok (s := 6) (by decide +kernel)) (i := 2) (rfl : (2 : Int32) = nI 2) (by decide) (by decide) ?_
  refine pg_43_72 (y := (3 : Int32)) (lv' := [some (xm_r (7, 2, 0)), some (xm_i (2 : Int32)), some (xm_i (6 : Int32)), some (xm_i (3 : Int32))]) rfl (by decide) rfl ?_
  refine pg_43_75 ?_
  refine pg_43_53 rfl ?_
  refine pg_43_54 rfl ?_
  refine pg_43_55 (fun hc => absurd hc (by decide)) (fun _ => ?_)
  refine pg_43_58 rfl ?_
  refine pg_43_59 (en_ok (by decide +kernel)) rfl ?_
  refine pg_43_62 rfl ?_
  refine pg_43_63 (a := (9, 2, 9)) (en_a (by decide +kernel)) (en_k (by decide +kernel)) ?_
  show xm_G (en 6 L) (d + 1) true 43 66 [some (xm_r (7, 2, 0)), some (xm_i (2 : Int32)), some (xm_i (6 : Int32)), some (xm_i (3 : Int32))] [xm_r (9, 2, 9), xm_i (3 : Int32), xm_r (11, 2, 0)] ((77, 363), (xm_up (xm_up (xm_up fi (7, 2, 0) 0 (2 : Int32)) (7, 2, 0) 1 (6 : Int32)) (8, 2, 0) 2 (sp_1 (6 : Int32))), fl, (xm_up (xm_up (xm_up (xm_up (xm_up (xm_up (xm_up (xm_up (xm_up (xm_up r (7, 2, 0) 4 (some (8, 2, 0))) (9, 2, 0) 0 (some (10, 2, 0))) (7, 2, 0) 5 (some (9, 2, 0))) (7, 2, 0) 6 (some (11, 2, 0))) (9, 2, 6) 0 (some (10, 2, 6))) (11, 2, 0) 0 (some (9, 2, 6))) (9, 2, 7) 0 (some (10, 2, 7))) (11, 2, 0) 1 (some (9, 2, 7))) (9, 2, 8) 0 (some (10, 2, 8))) (11, 2, 0) 2 (some (9, 2, 8)))) R
  refine pg_43_66 rfl ?_
  refine pg_43_67 rfl ?_
  refine pg_43_68 (Nat.le_of_ble_eq_true rfl) (ct_61 (m := 6) (b := (10, 2, 9)) (rfl : (6 : Int32) = nI 6) (by decide) (en_a (by decide +kernel)) (en_k (by decide +kernel)) (en_ok (by decide +kernel))) ?_
  show xm_G (en 6 L) (d + 1) true 43 71 [some (xm_r (7, 2, 0)), some (xm_i (2 : Int32)), some (xm_i (6 : Int32)), some (xm_i (3 : Int32))] [xm_r (9, 2, 9), xm_i (3 : Int32), xm_r (11, 2, 0)] ((78, 369), (xm_up (xm_up (xm_up fi (7, 2, 0) 0 (2 : Int32)) (7, 2, 0) 1 (6 : Int32)) (8, 2, 0) 2 (sp_1 (6 : Int32))), fl, (xm_up (xm_up (xm_up (xm_up (xm_up (xm_up (xm_up (xm_up (xm_up (xm_up (xm_up r (7, 2, 0) 4 (some (8, 2, 0))) (9, 2, 0) 0 (some (10, 2, 0))) (7, 2, 0) 5 (some (9, 2, 0))) (7, 2, 0) 6 (some (11, 2, 0))) (9, 2, 6) 0 (some (10, 2, 6))) (11, 2, 0) 0 (some (9, 2, 6))) (9, 2, 7) 0 (some (10, 2, 7))) (11, 2, 0) 1 (some (9, 2, 7))) (9, 2, 8) 0 (some (10, 2, 8))) (11, 2, 0) 2 (some (9, 2, 8))) (9, 2, 9) 0 (some (10, 2, 9)))) R
  refine pg_43_71 (en_ok (t := 4) (s := 0) (by decide +kernel)) (by decide) (by decide) (en_ok (s := 6) (by decide +kernel)) (i := 3) (rfl : (3 : Int32) = nI 3) (by decide) (by decide) ?_
  refine pg_43_72 (y := (4 : Int32)) (lv' := [some (xm_r (7, 2, 0)), some (xm_i (2 : Int32)), some (xm_i (6 : Int32)), some (xm_i (4 : Int32))]) rfl (by decide) rfl ?_
  refine pg_43_75 ?_
  refine pg_43_53 rfl ?_
  refine pg_43_54 rfl ?_
  refine pg_43_55 (fun hc => absurd hc (by decide)) (fun _ => ?_)
  refine pg_43_58 rfl ?_
  refine pg_43_59 (en_ok (by decide +kernel)) rfl ?_
  refine pg_43_62 rfl ?_
  refine pg_43_63 (a := (9, 2, 10)) (en_a (by decide +kernel)) (en_k (by decide +kernel)) ?_
  show xm_G (en 6 L) (d + 1) true 43 66 [some (xm_r (7, 2, 0)), some (xm_i (2 : Int32)), some (xm_i (6 : Int32)), some (xm_i (4 : Int32))] [xm_r (9, 2, 10), xm_i (4 : Int32), xm_r (11, 2, 0)] ((79, 371), (xm_up (xm_up (xm_up fi (7, 2, 0) 0 (2 : Int32)) (7, 2, 0) 1 (6 : Int32)) (8, 2, 0) 2 (sp_1 (6 : Int32))), fl, (xm_up (xm_up (xm_up (xm_up (xm_up (xm_up (xm_up (xm_up (xm_up (xm_up (xm_up (xm_up r (7, 2, 0) 4 (some (8, 2, 0))) (9, 2, 0) 0 (some (10, 2, 0))) (7, 2, 0) 5 (some (9, 2, 0))) (7, 2, 0) 6 (some (11, 2, 0))) (9, 2, 6) 0 (some (10, 2, 6))) (11, 2, 0) 0 (some (9, 2, 6))) (9, 2, 7) 0 (some (10, 2, 7))) (11, 2, 0) 1 (some (9, 2, 7))) (9, 2, 8) 0 (some (10, 2, 8))) (11, 2, 0) 2 (some (9, 2, 8))) (9, 2, 9) 0 (some (10, 2, 9))) (11, 2, 0) 3 (some (9, 2, 9)))) R
  refine pg_43_66 rfl ?_
  refine pg_43_67 rfl ?_
  refine pg_43_68 (Nat.le_of_ble_eq_true rfl) (ct_61 (m := 6) (b := (10, 2, 10)) (rfl : (6 : Int32) = nI 6) (by decide) (en_a (by decide +kernel)) (en_k (by decide +kernel)) (en_ok (by decide +kernel))) ?_
  show xm_G (en 6 L) (d + 1) true 43 71 [some (xm_r (7, 2, 0)), some (xm_i (2 : Int32)), some (xm_i (6 : Int32)), some (xm_i (4 : Int32))] [xm_r (9, 2, 10), xm_i (4 : Int32), xm_r (11, 2, 0)] ((80, 377), (xm_up (xm_up (xm_up fi (7, 2, 0) 0 (2 : Int32)) (7, 2, 0) 1 (6 : Int32)) (8, 2, 0) 2 (sp_1 (6 : Int32))), fl, (xm_up (xm_up (xm_up (xm_up (xm_up (xm_up (xm_up (xm_up (xm_up (xm_up (xm_up (xm_up (xm_up r (7, 2, 0) 4 (some (8, 2, 0))) (9, 2, 0) 0 (some (10, 2, 0))) (7, 2, 0) 5 (some (9, 2, 0))) (7, 2, 0) 6 (some (11, 2, 0))) (9, 2, 6) 0 (some (10, 2, 6))) (11, 2, 0) 0 (some (9, 2, 6))) (9, 2, 7) 0 (some (10, 2, 7))) (11, 2, 0) 1 (some (9, 2, 7))) (9, 2, 8) 0 (some (10, 2, 8))) (11, 2, 0) 2 (some (9, 2, 8))) (9, 2, 9) 0 (some (10, 2, 9))) (11, 2, 0) 3 (some (9, 2, 9))) (9, 2, 10) 0 (some (10, 2, 10)))) R
  refine pg_43_71 (en_ok (t := 4) (s := 0) (by decide +kernel)) (by decide) (by decide) (en_ok (s := 6) (by decide +kernel)) (i := 4) (rfl : (4 : Int32) = nI 4) (by decide) (by decide) ?_
  refine pg_43_72 (y := (5 : Int32)) (lv' := [some (xm_r (7, 2, 0)), some (xm_i (2 : Int32)), some (xm_i (6 : Int32)), some (xm_i (5 : Int32))]) rfl (by decide) rfl ?_
  refine pg_43_75 ?_
  refine pg_43_53 rfl ?_
  refine pg_43_54 rfl ?_
  refine pg_43_55 (fun hc => absurd hc (by decide)) (fun _ => ?_)
  refine pg_43_58 rfl ?_
  refine pg_43_59 (en_ok (by decide +kernel)) rfl ?_
  refine pg_43_62 rfl ?_
  refine pg_43_63 (a := (9, 2, 11)) (en_a (by decide +kernel)) (en_k (by decide +kernel)) ?_
  show xm_G (en 6 L) (d + 1) true 43 66 [some (xm_r (7, 2, 0)), some (xm_i (2 : Int32)), some (xm_i (6 : Int32)), some (xm_i (5 : Int32))] [xm_r (9, 2, 11), xm_i (5 : Int32), xm_r (11, 2, 0)] ((81, 379), (xm_up (xm_up (xm_up fi (7, 2, 0) 0 (2 : Int32)) (7, 2, 0) 1 (6 : Int32)) (8, 2, 0) 2 (sp_1 (6 : Int32))), fl, (xm_up (xm_up (xm_up (xm_up (xm_up (xm_up (xm_up (xm_up (xm_up (xm_up (xm_up (xm_up (xm_up (xm_up r (7, 2, 0) 4 (some (8, 2, 0))) (9, 2, 0) 0 (some (10, 2, 0))) (7, 2, 0) 5 (some (9, 2, 0))) (7, 2, 0) 6 (some (11, 2, 0))) (9, 2, 6) 0 (some (10, 2, 6))) (11, 2, 0) 0 (some (9, 2, 6))) (9, 2, 7) 0 (some (10, 2, 7))) (11, 2, 0) 1 (some (9, 2, 7))) (9, 2, 8) 0 (some (10, 2, 8))) (11, 2, 0) 2 (some (9, 2, 8))) (9, 2, 9) 0 (some (10, 2, 9))) (11, 2, 0) 3 (some (9, 2, 9))) (9, 2, 10) 0 (some (10, 2, 10))) (11, 2, 0) 4 (some (9, 2, 10)))) R
  refine pg_43_66 rfl ?_
  refine pg_43_67 rfl ?_
  refine pg_43_68 (Nat.le_of_ble_eq_true rfl) (ct_61 (m := 6) (b := (10, 2, 11)) (rfl : (6 : Int32) = nI 6) (by decide) (en_a (by decide +kernel)) (en_k (by decide +kernel)) (en_ok (by decide +kernel))) ?_
  show xm_G (en 6 L) (d + 1) true 43 71 [some (xm_r (7, 2, 0)), some (xm_i (2 : Int32)), some (xm_i (6 : Int32)), some (xm_i (5 : Int32))] [xm_r (9, 2, 11), xm_i (5 : Int32), xm_r (11, 2, 0)] ((82, 385), (xm_up (xm_up (xm_up fi (7, 2, 0) 0 (2 : Int32)) (7, 2, 0) 1 (6 : Int32)) (8, 2, 0) 2 (sp_1 (6 : Int32))), fl, (xm_up (xm_up (xm_up (xm_up (xm_up (xm_up (xm_up (xm_up (xm_up (xm_up (xm_up (xm_up (xm_up (xm_up (xm_up r (7, 2, 0) 4 (some (8, 2, 0))) (9, 2, 0) 0 (some (10, 2, 0))) (7, 2, 0) 5 (some (9, 2, 0))) (7, 2, 0) 6 (some (11, 2, 0))) (9, 2, 6) 0 (some (10, 2, 6))) (11, 2, 0) 0 (some (9, 2, 6))) (9, 2, 7) 0 (some (10, 2, 7))) (11, 2, 0) 1 (some (9, 2, 7))) (9, 2, 8) 0 (some (10, 2, 8))) (11, 2, 0) 2 (some (9, 2, 8))) (9, 2, 9) 0 (some (10, 2, 9))) (11, 2, 0) 3 (some (9, 2, 9))) (9, 2, 10) 0 (some (10, 2, 10))) (11, 2, 0) 4 (some (9, 2, 10))) (9, 2, 11) 0 (some (10, 2, 11)))) R
  refine pg_43_71 (en_ok (t := 4) (s := 0) (by decide +kernel)) (by decide) (by decide) (en_ok (s := 6) (by decide +kernel)) (i := 5) (rfl : (5 : Int32) = nI 5) (by decide) (by decide) ?_
  refine pg_43_72 (y := (6 : Int32)) (lv' := [some (xm_r (7, 2, 0)), some (xm_i (2 : Int32)), some (xm_i (6 : Int32)), some (xm_i (6 : Int32))]) rfl (by decide) rfl ?_
  refine pg_43_75 ?_
  refine pg_43_53 rfl ?_
  refine pg_43_54 rfl ?_
  refine pg_43_55 (fun _ => ?_) (fun hc => absurd (by decide) hc)
  refine pg_43_78 rfl ?_
  refine pg_43_79 ?_
  refine pg_43_80 (n := 4) (rfl : (4 : Int32) = nI 4) (by decide) (en_a (a := (12, 2, 0)) (by decide +kernel)) (en_k (by decide +kernel)) ?_
  show xm_G (en 6 L) (d + 1) true 43 83 [some (xm_r (7, 2, 0)), some (xm_i (2 : Int32)), some (xm_i (6 : Int32)), some (xm_i (6 : Int32))] [xm_r (12, 2, 0), xm_r (7, 2, 0)] ((83, 389), (xm_up (xm_up (xm_up fi (7, 2, 0) 0 (2 : Int32)) (7, 2, 0) 1 (6 : Int32)) (8, 2, 0) 2 (sp_1 (6 : Int32))), fl, (xm_up (xm_up (xm_up (xm_up (xm_up (xm_up (xm_up (xm_up (xm_up (xm_up (xm_up (xm_up (xm_up (xm_up (xm_up (xm_up r (7, 2, 0) 4 (some (8, 2, 0))) (9, 2, 0) 0 (some (10, 2, 0))) (7, 2, 0) 5 (some (9, 2, 0))) (7, 2, 0) 6 (some (11, 2, 0))) (9, 2, 6) 0 (some (10, 2, 6))) (11, 2, 0) 0 (some (9, 2, 6))) (9, 2, 7) 0 (some (10, 2, 7))) (11, 2, 0) 1 (some (9, 2, 7))) (9, 2, 8) 0 (some (10, 2, 8))) (11, 2, 0) 2 (some (9, 2, 8))) (9, 2, 9) 0 (some (10, 2, 9))) (11, 2, 0) 3 (some (9, 2, 9))) (9, 2, 10) 0 (some (10, 2, 10))) (11, 2, 0) 4 (some (9, 2, 10))) (9, 2, 11) 0 (some (10, 2, 11))) (11, 2, 0) 5 (some (9, 2, 11)))) R
  refine pg_43_83 (en_ok (by decide +kernel)) ?_
  refine pg_43_86 ?_
  refine pg_43_87 (lv' := [some (xm_r (7, 2, 0)), some (xm_i (2 : Int32)), some (xm_i (6 : Int32)), some (xm_i (0 : Int32))]) rfl ?_
  refine pg_43_88 rfl ?_
  refine pg_43_89 ?_
  refine pg_43_90 (fun hc => absurd hc (by decide)) (fun _ => ?_)
  refine pg_43_93 rfl ?_
  refine pg_43_94 (en_ok (by decide +kernel)) rfl ?_
  refine pg_43_97 rfl ?_
  refine pg_43_98 (a := (9, 2, 2)) (en_a (by decide +kernel)) (en_k (by decide +kernel)) ?_
  show xm_G (en 6 L) (d + 1) true 43 101 [some (xm_r (7, 2, 0)), some (xm_i (2 : Int32)), some (xm_i (6 : Int32)), some (xm_i (0 : Int32))] [xm_r (9, 2, 2), xm_i (0 : Int32), xm_r (12, 2, 0)] ((84, 391), (xm_up (xm_up (xm_up fi (7, 2, 0) 0 (2 : Int32)) (7, 2, 0) 1 (6 : Int32)) (8, 2, 0) 2 (sp_1 (6 : Int32))), fl, (xm_up (xm_up (xm_up (xm_up (xm_up (xm_up (xm_up (xm_up (xm_up (xm_up (xm_up (xm_up (xm_up (xm_up (xm_up (xm_up (xm_up r (7, 2, 0) 4 (some (8, 2, 0))) (9, 2, 0) 0 (some (10, 2, 0))) (7, 2, 0) 5 (some (9, 2, 0))) (7, 2, 0) 6 (some (11, 2, 0))) (9, 2, 6) 0 (some (10, 2, 6))) (11, 2, 0) 0 (some (9, 2, 6))) (9, 2, 7) 0 (some (10, 2, 7))) (11, 2, 0) 1 (some (9, 2, 7))) (9, 2, 8) 0 (some (10, 2, 8))) (11, 2, 0) 2 (some (9, 2, 8))) (9, 2, 9) 0 (some (10, 2, 9))) (11, 2, 0) 3 (some (9, 2, 9))) (9, 2, 10) 0 (some (10, 2, 10))) (11, 2, 0) 4 (some (9, 2, 10))) (9, 2, 11) 0 (some (10, 2, 11))) (11, 2, 0) 5 (some (9, 2, 11))) (7, 2, 0) 7 (some (12, 2, 0)))) R
  refine pg_43_101 rfl ?_
  refine pg_43_102 rfl ?_
  refine pg_43_103 (Nat.le_of_ble_eq_true rfl) (ct_61 (m := 6) (b := (10, 2, 2)) (rfl : (6 : Int32) = nI 6) (by decide) (en_a (by decide +kernel)) (en_k (by decide +kernel)) (en_ok (by decide +kernel))) ?_
  show xm_G (en 6 L) (d + 1) true 43 106 [some (xm_r (7, 2, 0)), some (xm_i (2 : Int32)), some (xm_i (6 : Int32)), some (xm_i (0 : Int32))] [xm_r (9, 2, 2), xm_i (0 : Int32), xm_r (12, 2, 0)] ((85, 397), (xm_up (xm_up (xm_up fi (7, 2, 0) 0 (2 : Int32)) (7, 2, 0) 1 (6 : Int32)) (8, 2, 0) 2 (sp_1 (6 : Int32))), fl, (xm_up (xm_up (xm_up (xm_up (xm_up (xm_up (xm_up (xm_up (xm_up (xm_up (xm_up (xm_up (xm_up (xm_up (xm_up (xm_up (xm_up (xm_up r (7, 2, 0) 4 (some (8, 2, 0))) (9, 2, 0) 0 (some (10, 2, 0))) (7, 2, 0) 5 (some (9, 2, 0))) (7, 2, 0) 6 (some (11, 2, 0))) (9, 2, 6) 0 (some (10, 2, 6))) (11, 2, 0) 0 (some (9, 2, 6))) (9, 2, 7) 0 (some (10, 2, 7))) (11, 2, 0) 1 (some (9, 2, 7))) (9, 2, 8) 0 (some (10, 2, 8))) (11, 2, 0) 2 (some (9, 2, 8))) (9, 2, 9) 0 (some (10, 2, 9))) (11, 2, 0) 3 (some (9, 2, 9))) (9, 2, 10) 0 (some (10, 2, 10))) (11, 2, 0) 4 (some (9, 2, 10))) (9, 2, 11) 0 (some (10, 2, 11))) (11, 2, 0) 5 (some (9, 2, 11))) (7, 2, 0) 7 (some (12, 2, 0))) (9, 2, 2) 0 (some (10, 2, 2)))) R
  refine pg_43_106 (en_ok (t := 4) (s := 0) (by decide +kernel)) (by decide) (by decide) (en_ok (s := 4) (by decide +kernel)) (i := 0) (rfl : (0 : Int32) = nI 0) (by decide) (by decide) ?_
  refine pg_43_107 (y := (1 : Int32)) (lv' := [some (xm_r (7, 2, 0)), some (xm_i (2 : Int32)), some (xm_i (6 : Int32)), some (xm_i (1 : Int32))]) rfl (by decide) rfl ?_
  refine pg_43_110 ?_
  refine pg_43_88 rfl ?_
  refine pg_43_89 ?_
  refine pg_43_90 (fun hc => absurd hc (by decide)) (fun _ => ?_)
  refine pg_43_93 rfl ?_
  refine pg_43_94 (en_ok (by decide +kernel)) rfl ?_
  refine pg_43_97 rfl ?_
  refine pg_43_98 (a := (9, 2, 3)) (en_a (by decide +kernel)) (en_k (by decide +kernel)) ?_
  show xm_G (en 6 L) (d + 1) true 43 101 [some (xm_r (7, 2, 0)), some (xm_i (2 : Int32)), some (xm_i (6 : Int32)), some (xm_i (1 : Int32))] [xm_r (9, 2, 3), xm_i (1 : Int32), xm_r (12, 2, 0)] ((86, 399), (xm_up (xm_up (xm_up fi (7, 2, 0) 0 (2 : Int32)) (7, 2, 0) 1 (6 : Int32)) (8, 2, 0) 2 (sp_1 (6 : Int32))), fl, (xm_up (xm_up (xm_up (xm_up (xm_up (xm_up (xm_up (xm_up (xm_up (xm_up (xm_up (xm_up (xm_up (xm_up (xm_up (xm_up (xm_up (xm_up (xm_up r (7, 2, 0) 4 (some (8, 2, 0))) (9, 2, 0) 0 (some (10, 2, 0))) (7, 2, 0) 5 (some (9, 2, 0))) (7, 2, 0) 6 (some (11, 2, 0))) (9, 2, 6) 0 (some (10, 2, 6))) (11, 2, 0) 0 (some (9, 2, 6))) (9, 2, 7) 0 (some (10, 2, 7))) (11, 2, 0) 1 (some (9, 2, 7))) (9, 2, 8) 0 (some (10, 2, 8))) (11, 2, 0) 2 (some (9, 2, 8))) (9, 2, 9) 0 (some (10, 2, 9))) (11, 2, 0) 3 (some (9, 2, 9))) (9, 2, 10) 0 (some (10, 2, 10))) (11, 2, 0) 4 (some (9, 2, 10))) (9, 2, 11) 0 (some (10, 2, 11))) (11, 2, 0) 5 (some (9, 2, 11))) (7, 2, 0) 7 (some (12, 2, 0))) (9, 2, 2) 0 (some (10, 2, 2))) (12, 2, 0) 0 (some (9, 2, 2)))) R
  refine pg_43_101 rfl ?_
  refine pg_43_102 rfl ?_
  refine pg_43_103 (Nat.le_of_ble_eq_true rfl) (ct_61 (m := 6) (b := (10, 2, 3)) (rfl : (6 : Int32) = nI 6) (by decide) (en_a (by decide +kernel)) (en_k (by decide +kernel)) (en_ok (by decide +kernel))) ?_
  show xm_G (en 6 L) (d + 1) true 43 106 [some (xm_r (7, 2, 0)), some (xm_i (2 : Int32)), some (xm_i (6 : Int32)), some (xm_i (1 : Int32))] [xm_r (9, 2, 3), xm_i (1 : Int32), xm_r (12, 2, 0)] ((87, 405), (xm_up (xm_up (xm_up fi (7, 2, 0) 0 (2 : Int32)) (7, 2, 0) 1 (6 : Int32)) (8, 2, 0) 2 (sp_1 (6 : Int32))), fl, (xm_up (xm_up (xm_up (xm_up (xm_up (xm_up (xm_up (xm_up (xm_up (xm_up (xm_up (xm_up (xm_up (xm_up (xm_up (xm_up (xm_up (xm_up (xm_up (xm_up r (7, 2, 0) 4 (some (8, 2, 0))) (9, 2, 0) 0 (some (10, 2, 0))) (7, 2, 0) 5 (some (9, 2, 0))) (7, 2, 0) 6 (some (11, 2, 0))) (9, 2, 6) 0 (some (10, 2, 6))) (11, 2, 0) 0 (some (9, 2, 6))) (9, 2, 7) 0 (some (10, 2, 7))) (11, 2, 0) 1 (some (9, 2, 7))) (9, 2, 8) 0 (some (10, 2, 8))) (11, 2, 0) 2 (some (9, 2, 8))) (9, 2, 9) 0 (some (10, 2, 9))) (11, 2, 0) 3 (some (9, 2, 9))) (9, 2, 10) 0 (some (10, 2, 10))) (11, 2, 0) 4 (some (9, 2, 10))) (9, 2, 11) 0 (some (10, 2, 11))) (11, 2, 0) 5 (some (9, 2, 11))) (7, 2, 0) 7 (some (12, 2, 0))) (9, 2, 2) 0 (some (10, 2, 2))) (12, 2, 0) 0 (some (9, 2, 2))) (9, 2, 3) 0 (some (10, 2, 3)))) R
  refine pg_43_106 (en_ok (t := 4) (s := 0) (by decide +kernel)) (by decide) (by decide) (en_ok (s := 4) (by decide +kernel)) (i := 1) (rfl : (1 : Int32) = nI 1) (by decide) (by decide) ?_
  refine pg_43_107 (y := (2 : Int32)) (lv' := [some (xm_r (7, 2, 0)), some (xm_i (2 : Int32)), some (xm_i (6 : Int32)), some (xm_i (2 : Int32))]) rfl (by decide) rfl ?_
  refine pg_43_110 ?_
  refine pg_43_88 rfl ?_
  refine pg_43_89 ?_
  refine pg_43_90 (fun hc => absurd hc (by decide)) (fun _ => ?_)
  refine pg_43_93 rfl ?_
  refine pg_43_94 (en_ok (by decide +kernel)) rfl ?_
  refine pg_43_97 rfl ?_
  refine pg_43_98 (a := (9, 2, 4)) (en_a (by decide +kernel)) (en_k (by decide +kernel)) ?_
  show xm_G (en 6 L) (d + 1) true 43 101 [some (xm_r (7, 2, 0)), some (xm_i (2 : Int32)), some (xm_i (6 : Int32)), some (xm_i (2 : Int32))] [xm_r (9, 2, 4), xm_i (2 : Int32), xm_r (12, 2, 0)] ((88, 407), (xm_up (xm_up (xm_up fi (7, 2, 0) 0 (2 : Int32)) (7, 2, 0) 1 (6 : Int32)) (8, 2, 0) 2 (sp_1 (6 : Int32))), fl, (xm_up (xm_up (xm_up (xm_up (xm_up (xm_up (xm_up (xm_up (xm_up (xm_up (xm_up (xm_up (xm_up (xm_up (xm_up (xm_up (xm_up (xm_up (xm_up (xm_up (xm_up r (7, 2, 0) 4 (some (8, 2, 0))) (9, 2, 0) 0 (some (10, 2, 0))) (7, 2, 0) 5 (some (9, 2, 0))) (7, 2, 0) 6 (some (11, 2, 0))) (9, 2, 6) 0 (some (10, 2, 6))) (11, 2, 0) 0 (some (9, 2, 6))) (9, 2, 7) 0 (some (10, 2, 7))) (11, 2, 0) 1 (some (9, 2, 7))) (9, 2, 8) 0 (some (10, 2, 8))) (11, 2, 0) 2 (some (9, 2, 8))) (9, 2, 9) 0 (some (10, 2, 9))) (11, 2, 0) 3 (some (9, 2, 9))) (9, 2, 10) 0 (some (10, 2, 10))) (11, 2, 0) 4 (some (9, 2, 10))) (9, 2, 11) 0 (some (10, 2, 11))) (11, 2, 0) 5 (some (9, 2, 11))) (7, 2, 0) 7 (some (12, 2, 0))) (9, 2, 2) 0 (some (10, 2, 2))) (12, 2, 0) 0 (some (9, 2, 2))) (9, 2, 3) 0 (some (10, 2, 3))) (12, 2, 0) 1 (some (9, 2, 3)))) R
  refine pg_43_101 rfl ?_
  refine pg_43_102 rfl ?_
  refine pg_43_103 (Nat.le_of_ble_eq_true rfl) (ct_61 (m := 6) (b := (10, 2, 4)) (rfl : (6 : Int32) = nI 6) (by decide) (en_a (by decide +kernel)) (en_k (by decide +kernel)) (en_ok (by decide +kernel))) ?_
  show xm_G (en 6 L) (d + 1) true 43 106 [some (xm_r (7, 2, 0)), some (xm_i (2 : Int32)), some (xm_i (6 : Int32)), some (xm_i (2 : Int32))] [xm_r (9, 2, 4), xm_i (2 : Int32), xm_r (12, 2, 0)] ((89, 413), (xm_up (xm_up (xm_up fi (7, 2, 0) 0 (2 : Int32)) (7, 2, 0) 1 (6 : Int32)) (8, 2, 0) 2 (sp_1 (6 : Int32))), fl, (xm_up (xm_up (xm_up (xm_up (xm_up (xm_up (xm_up (xm_up (xm_up (xm_up (xm_up (xm_up (xm_up (xm_up (xm_up (xm_up (xm_up (xm_up (xm_up (xm_up (xm_up (xm_up r (7, 2, 0) 4 (some (8, 2, 0))) (9, 2, 0) 0 (some (10, 2, 0))) (7, 2, 0) 5 (some (9, 2, 0))) (7, 2, 0) 6 (some (11, 2, 0))) (9, 2, 6) 0 (some (10, 2, 6))) (11, 2, 0) 0 (some (9, 2, 6))) (9, 2, 7) 0 (some (10, 2, 7))) (11, 2, 0) 1 (some (9, 2, 7))) (9, 2, 8) 0 (some (10, 2, 8))) (11, 2, 0) 2 (some (9, 2, 8))) (9, 2, 9) 0 (some (10, 2, 9))) (11, 2, 0) 3 (some (9, 2, 9))) (9, 2, 10) 0 (some (10, 2, 10))) (11, 2, 0) 4 (some (9, 2, 10))) (9, 2, 11) 0 (some (10, 2, 11))) (11, 2, 0) 5 (some (9, 2, 11))) (7, 2, 0) 7 (some (12, 2, 0))) (9, 2, 2) 0 (some (10, 2, 2))) (12, 2, 0) 0 (some (9, 2, 2))) (9, 2, 3) 0 (some (10, 2, 3))) (12, 2, 0) 1 (some (9, 2, 3))) (9, 2, 4) 0 (some (10, 2, 4)))) R
  refine pg_43_106 (en_ok (t := 4) (s := 0) (by decide +kernel)) (by decide) (by decide) (en_ok (s := 4) (by decide +kernel)) (i := 2) (rfl : (2 : Int32) = nI 2) (by decide) (by decide) ?_
  refine pg_43_107 (y := (3 : Int32)) (lv' := [some (xm_r (7, 2, 0)), some (xm_i (2 : Int32)), some (xm_i (6 : Int32)), some (xm_i (3 : Int32))]) rfl (by decide) rfl ?_
  refine pg_43_110 ?_
  refine pg_43_88 rfl ?_
  refine pg_43_89 ?_
  refine pg_43_90 (fun hc => absurd hc (by decide)) (fun _ => ?_)
  refine pg_43_93 rfl ?_
  refine pg_43_94 (en_ok (by decide +kernel)) rfl ?_
  refine pg_43_97 rfl ?_
  refine pg_43_98 (a := (9, 2, 5)) (en_a (by decide +kernel)) (en_k (by decide +kernel)) ?_
  show xm_G (en 6 L) (d + 1) true 43 101 [some (xm_r (7, 2, 0)), some (xm_i (2 : Int32)), some (xm_i (6 : Int32)), some (xm_i (3 : Int32))] [xm_r (9, 2, 5), xm_i (3 : Int32), xm_r (12, 2, 0)] ((90, 415), (xm_up (xm_up (xm_up fi (7, 2, 0) 0 (2 : Int32)) (7, 2, 0) 1 (6 : Int32)) (8, 2, 0) 2 (sp_1 (6 : Int32))), fl, (xm_up (xm_up (xm_up (xm_up (xm_up (xm_up (xm_up (xm_up (xm_up (xm_up (xm_up (xm_up (xm_up (xm_up (xm_up (xm_up (xm_up (xm_up (xm_up (xm_up (xm_up (xm_up (xm_up r (7, 2, 0) 4 (some (8, 2, 0))) (9, 2, 0) 0 (some (10, 2, 0))) (7, 2, 0) 5 (some (9, 2, 0))) (7, 2, 0) 6 (some (11, 2, 0))) (9, 2, 6) 0 (some (10, 2, 6))) (11, 2, 0) 0 (some (9, 2, 6))) (9, 2, 7) 0 (some (10, 2, 7))) (11, 2, 0) 1 (some (9, 2, 7))) (9, 2, 8) 0 (some (10, 2, 8))) (11, 2, 0) 2 (some (9, 2, 8))) (9, 2, 9) 0 (some (10, 2, 9))) (11, 2, 0) 3 (some (9, 2, 9))) (9, 2, 10) 0 (some (10, 2, 10))) (11, 2, 0) 4 (some (9, 2, 10))) (9, 2, 11) 0 (some (10, 2, 11))) (11, 2, 0) 5 (some (9, 2, 11))) (7, 2, 0) 7 (some (12, 2, 0))) (9, 2, 2) 0 (some (10, 2, 2))) (12, 2, 0) 0 (some (9, 2, 2))) (9, 2, 3) 0 (some (10, 2, 3))) (12, 2, 0) 1 (some (9, 2, 3))) (9, 2, 4) 0 (some (10, 2, 4))) (12, 2, 0) 2 (some (9, 2, 4)))) R
  refine pg_43_101 rfl ?_
  refine pg_43_102 rfl ?_
  refine pg_43_103 (Nat.le_of_ble_eq_true rfl) (ct_61 (m := 6) (b := (10, 2, 5)) (rfl : (6 : Int32) = nI 6) (by decide) (en_a (by decide +kernel)) (en_k (by decide +kernel)) (en_ok (by decide +kernel))) ?_
  show xm_G (en 6 L) (d + 1) true 43 106 [some (xm_r (7, 2, 0)), some (xm_i (2 : Int32)), some (xm_i (6 : Int32)), some (xm_i (3 : Int32))] [xm_r (9, 2, 5), xm_i (3 : Int32), xm_r (12, 2, 0)] ((91, 421), (xm_up (xm_up (xm_up fi (7, 2, 0) 0 (2 : Int32)) (7, 2, 0) 1 (6 : Int32)) (8, 2, 0) 2 (sp_1 (6 : Int32))), fl, (xm_up (xm_up (xm_up (xm_up (xm_up (xm_up (xm_up (xm_up (xm_up (xm_up (xm_up (xm_up (xm_up (xm_up (xm_up (xm_up (xm_up (xm_up (xm_up (xm_up (xm_up (xm_up (xm_up (xm_up r (7, 2, 0) 4 (some (8, 2, 0))) (9, 2, 0) 0 (some (10, 2, 0))) (7, 2, 0) 5 (some (9, 2, 0))) (7, 2, 0) 6 (some (11, 2, 0))) (9, 2, 6) 0 (some (10, 2, 6))) (11, 2, 0) 0 (some (9, 2, 6))) (9, 2, 7) 0 (some (10, 2, 7))) (11, 2, 0) 1 (some (9, 2, 7))) (9, 2, 8) 0 (some (10, 2, 8))) (11, 2, 0) 2 (some (9, 2, 8))) (9, 2, 9) 0 (some (10, 2, 9))) (11, 2, 0) 3 (some (9, 2, 9))) (9, 2, 10) 0 (some (10, 2, 10))) (11, 2, 0) 4 (some (9, 2, 10))) (9, 2, 11) 0 (some (10, 2, 11))) (11, 2, 0) 5 (some (9, 2, 11))) (7, 2, 0) 7 (some (12, 2, 0))) (9, 2, 2) 0 (some (10, 2, 2))) (12, 2, 0) 0 (some (9, 2, 2))) (9, 2, 3) 0 (some (10, 2, 3))) (12, 2, 0) 1 (some (9, 2, 3))) (9, 2, 4) 0 (some (10, 2, 4))) (12, 2, 0) 2 (some (9, 2, 4))) (9, 2, 5) 0 (some (10, 2, 5)))) R
  refine pg_43_106 (en_ok (t := 4) (s := 0) (by decide +kernel)) (by decide) (by decide) (en_ok (s := 4) (by decide +kernel)) (i := 3) (rfl : (3 : Int32) = nI 3) (by decide) (by decide) ?_
  refine pg_43_107 (y := (4 : Int32)) (lv' := [some (xm_r (7, 2, 0)), some (xm_i (2 : Int32)), some (xm_i (6 : Int32)), some (xm_i (4 : Int32))]) rfl (by decide) rfl ?_
  refine pg_43_110 ?_
  refine pg_43_88 rfl ?_
  refine pg_43_89 ?_
  refine pg_43_90 (fun _ => ?_) (fun hc => absurd (by decide) hc)
  refine pg_43_113 rfl ?_
  refine pg_43_114 (a := (9, 2, 1)) (en_a (by decide +kernel)) (en_k (by decide +kernel)) ?_
  show xm_G (en 6 L) (d + 1) true 43 117 [some (xm_r (7, 2, 0)), some (xm_i (2 : Int32)), some (xm_i (6 : Int32)), some (xm_i (4 : Int32))] [xm_r (9, 2, 1), xm_r (7, 2, 0)] ((92, 423), (xm_up (xm_up (xm_up fi (7, 2, 0) 0 (2 : Int32)) (7, 2, 0) 1 (6 : Int32)) (8, 2, 0) 2 (sp_1 (6 : Int32))), fl, (xm_up (xm_up (xm_up (xm_up (xm_up (xm_up (xm_up (xm_up (xm_up (xm_up (xm_up (xm_up (xm_up (xm_up (xm_up (xm_up (xm_up (xm_up (xm_up (xm_up (xm_up (xm_up (xm_up (xm_up (xm_up r (7, 2, 0) 4 (some (8, 2, 0))) (9, 2, 0) 0 (some (10, 2, 0))) (7, 2, 0) 5 (some (9, 2, 0))) (7, 2, 0) 6 (some (11, 2, 0))) (9, 2, 6) 0 (some (10, 2, 6))) (11, 2, 0) 0 (some (9, 2, 6))) (9, 2, 7) 0 (some (10, 2, 7))) (11, 2, 0) 1 (some (9, 2, 7))) (9, 2, 8) 0 (some (10, 2, 8))) (11, 2, 0) 2 (some (9, 2, 8))) (9, 2, 9) 0 (some (10, 2, 9))) (11, 2, 0) 3 (some (9, 2, 9))) (9, 2, 10) 0 (some (10, 2, 10))) (11, 2, 0) 4 (some (9, 2, 10))) (9, 2, 11) 0 (some (10, 2, 11))) (11, 2, 0) 5 (some (9, 2, 11))) (7, 2, 0) 7 (some (12, 2, 0))) (9, 2, 2) 0 (some (10, 2, 2))) (12, 2, 0) 0 (some (9, 2, 2))) (9, 2, 3) 0 (some (10, 2, 3))) (12, 2, 0) 1 (some (9, 2, 3))) (9, 2, 4) 0 (some (10, 2, 4))) (12, 2, 0) 2 (some (9, 2, 4))) (9, 2, 5) 0 (some (10, 2, 5))) (12, 2, 0) 3 (some (9, 2, 5)))) R
  refine pg_43_117 rfl ?_
  refine pg_43_118 rfl ?_
  refine pg_43_119 (Nat.le_of_ble_eq_true rfl) (ct_61 (m := 6) (b := (10, 2, 1)) (rfl : (6 : Int32) = nI 6) (by decide) (en_a (by decide +kernel)) (en_k (by decide +kernel)) (en_ok (by decide +kernel))) ?_
  show xm_G (en 6 L) (d + 1) true 43 122 [some (xm_r (7, 2, 0)), some (xm_i (2 : Int32)), some (xm_i (6 : Int32)), some (xm_i (4 : Int32))] [xm_r (9, 2, 1), xm_r (7, 2, 0)] ((93, 429), (xm_up (xm_up (xm_up fi (7, 2, 0) 0 (2 : Int32)) (7, 2, 0) 1 (6 : Int32)) (8, 2, 0) 2 (sp_1 (6 : Int32))), fl, (xm_up (xm_up (xm_up (xm_up (xm_up (xm_up (xm_up (xm_up (xm_up (xm_up (xm_up (xm_up (xm_up (xm_up (xm_up (xm_up (xm_up (xm_up (xm_up (xm_up (xm_up (xm_up (xm_up (xm_up (xm_up (xm_up r (7, 2, 0) 4 (some (8, 2, 0))) (9, 2, 0) 0 (some (10, 2, 0))) (7, 2, 0) 5 (some (9, 2, 0))) (7, 2, 0) 6 (some (11, 2, 0))) (9, 2, 6) 0 (some (10, 2, 6))) (11, 2, 0) 0 (some (9, 2, 6))) (9, 2, 7) 0 (some (10, 2, 7))) (11, 2, 0) 1 (some (9, 2, 7))) (9, 2, 8) 0 (some (10, 2, 8))) (11, 2, 0) 2 (some (9, 2, 8))) (9, 2, 9) 0 (some (10, 2, 9))) (11, 2, 0) 3 (some (9, 2, 9))) (9, 2, 10) 0 (some (10, 2, 10))) (11, 2, 0) 4 (some (9, 2, 10))) (9, 2, 11) 0 (some (10, 2, 11))) (11, 2, 0) 5 (some (9, 2, 11))) (7, 2, 0) 7 (some (12, 2, 0))) (9, 2, 2) 0 (some (10, 2, 2))) (12, 2, 0) 0 (some (9, 2, 2))) (9, 2, 3) 0 (some (10, 2, 3))) (12, 2, 0) 1 (some (9, 2, 3))) (9, 2, 4) 0 (some (10, 2, 4))) (12, 2, 0) 2 (some (9, 2, 4))) (9, 2, 5) 0 (some (10, 2, 5))) (12, 2, 0) 3 (some (9, 2, 5))) (9, 2, 1) 0 (some (10, 2, 1)))) R
  refine pg_43_122 (en_ok (by decide +kernel)) ?_
  refine pg_43_125 rfl ?_
  refine pg_43_126 rfl ?_
  refine pg_43_127 (n := 6) (rfl : (6 : Int32) = nI 6) (by decide) (en_a (a := (13, 2, 0)) (by decide +kernel)) (en_k (by decide +kernel)) ?_
  show xm_G (en 6 L) (d + 1) true 43 129 [some (xm_r (7, 2, 0)), some (xm_i (2 : Int32)), some (xm_i (6 : Int32)), some (xm_i (4 : Int32))] [xm_r (13, 2, 0), xm_r (7, 2, 0)] ((94, 435), (xm_up (xm_up (xm_up fi (7, 2, 0) 0 (2 : Int32)) (7, 2, 0) 1 (6 : Int32)) (8, 2, 0) 2 (sp_1 (6 : Int32))), fl, (xm_up (xm_up (xm_up (xm_up (xm_up (xm_up (xm_up (xm_up (xm_up (xm_up (xm_up (xm_up (xm_up (xm_up (xm_up (xm_up (xm_up (xm_up (xm_up (xm_up (xm_up (xm_up (xm_up (xm_up (xm_up (xm_up (xm_up r (7, 2, 0) 4 (some (8, 2, 0))) (9, 2, 0) 0 (some (10, 2, 0))) (7, 2, 0) 5 (some (9, 2, 0))) (7, 2, 0) 6 (some (11, 2, 0))) (9, 2, 6) 0 (some (10, 2, 6))) (11, 2, 0) 0 (some (9, 2, 6))) (9, 2, 7) 0 (some (10, 2, 7))) (11, 2, 0) 1 (some (9, 2, 7))) (9, 2, 8) 0 (some (10, 2, 8))) (11, 2, 0) 2 (some (9, 2, 8))) (9, 2, 9) 0 (some (10, 2, 9))) (11, 2, 0) 3 (some (9, 2, 9))) (9, 2, 10) 0 (some (10, 2, 10))) (11, 2, 0) 4 (some (9, 2, 10))) (9, 2, 11) 0 (some (10, 2, 11))) (11, 2, 0) 5 (some (9, 2, 11))) (7, 2, 0) 7 (some (12, 2, 0))) (9, 2, 2) 0 (some (10, 2, 2))) (12, 2, 0) 0 (some (9, 2, 2))) (9, 2, 3) 0 (some (10, 2, 3))) (12, 2, 0) 1 (some (9, 2, 3))) (9, 2, 4) 0 (some (10, 2, 4))) (12, 2, 0) 2 (some (9, 2, 4))) (9, 2, 5) 0 (some (10, 2, 5))) (12, 2, 0) 3 (some (9, 2, 5))) (9, 2, 1) 0 (some (10, 2, 1))) (7, 2, 0) 8 (some (9, 2, 1)))) R
  refine pg_43_129 (en_ok (by decide +kernel)) ?_
  exact go_eq hR.symm (pg_43_132)
def cf_43_6_3 (fi : FI) : FI := (xm_up (xm_up (xm_up fi (7, 3, 0) 0 (3 : Int32)) (7, 3, 0) 1 (6 : Int32)) (8, 3, 0) 2 (sp_1 (6 : Int32)))
def cr_43_6_3 (r : xm_I → Nat → Option xm_I) : xm_I → Nat → Option xm_I := (xm_up (xm_up (xm_up (xm_up (xm_up (xm_up (xm_up (xm_up (xm_up (xm_up (xm_up (xm_up (xm_up (xm_up (xm_up (xm_up (xm_up (xm_up (xm_up (xm_up (xm_up (xm_up (xm_up (xm_up (xm_up (xm_up (xm_up (xm_up r (7, 3, 0) 4 (some (8, 3, 0))) (9, 3, 0) 0 (some (10, 3, 0))) (7, 3, 0) 5 (some (9, 3, 0))) (7, 3, 0) 6 (some (11, 3, 0))) (9, 3, 6) 0 (some (10, 3, 6))) (11, 3, 0) 0 (some (9, 3, 6))) (9, 3, 7) 0 (some (10, 3, 7))) (11, 3, 0) 1 (some (9, 3, 7))) (9, 3, 8) 0 (some (10, 3, 8))) (11, 3, 0) 2 (some (9, 3, 8))) (9, 3, 9) 0 (some (10, 3, 9))) (11, 3, 0) 3 (some (9, 3, 9))) (9, 3, 10) 0 (some (10, 3, 10))) (11, 3, 0) 4 (some (9, 3, 10))) (9, 3, 11) 0 (some (10, 3, 11))) (11, 3, 0) 5 (some (9, 3, 11))) (7, 3, 0) 7 (some (12, 3, 0))) (9, 3, 2) 0 (some (10, 3, 2))) (12, 3, 0) 0 (some (9, 3, 2))) (9, 3, 3) 0 (some (10, 3, 3))) (12, 3, 0) 1 (some (9, 3, 3))) (9, 3, 4) 0 (some (10, 3, 4))) (12, 3, 0) 2 (some (9, 3, 4))) (9, 3, 5) 0 (some (10, 3, 5))) (12, 3, 0) 3 (some (9, 3, 5))) (9, 3, 1) 0 (some (10, 3, 1))) (7, 3, 0) 8 (some (9, 3, 1))) (7, 3, 0) 9 (some (13, 3, 0)))
set_option maxRecDepth 8000 in
theorem ct_43_6_3 {L : Nat} {fi : FI} {fl : FL} {r : xm_I → Nat → Option xm_I} {d : Nat} : xm_C (en 6 L) (d + 2) true 43 [xm_r (7, 3, 0), xm_i (3 : Int32), xm_i (6 : Int32)] ((95, 448), fi, fl, r) (.inl none, ((123, 564), cf_43_6_3 fi, fl, cr_43_6_3 r)) := by
  suffices key : ∀ (E : xm_E) (R : xm_O), E = en 6 L → ((.inl none, ((123, 564), cf_43_6_3 fi, fl, cr_43_6_3 r)) : xm_O) = R → xm_G (en 6 L) (d + 1) true 43 0 [some (xm_r (7, 3, 0)), some (xm_i (3 : Int32)), some (xm_i (6 : Int32)), none] [] ((95, 448), fi, fl, r) R from go_inr (by decide) (Nat.le_of_ble_eq_true rfl) (key _ _ rfl rfl)
  intro E R hE hR
  refine pg_43_0 rfl ?_
  refine pg_43_1 (Nat.le_of_ble_eq_true rfl) ?_
  refine pg_43_4 rfl ?_
  refine pg_43_5 rfl ?_
  refine pg_43_6 (en_ok (by decide +kernel)) ?_
  refine pg_43_9 rfl ?_
  refine pg_43_10 rfl ?_
  refine pg_43_11 (en_ok (by decide +kernel)) ?_
  refine pg_43_14 rfl ?_
  refine pg_43_15 ?_
  refine pg_43_16 (n := 4) (rfl : (4 : Int32) = nI 4) (by decide) (en_a (a := (8, 3, 0)) (by decide +kernel)) (en_k (by decide +kernel)) ?_
  show xm_G (en 6 L) (d + 1) true 43 18 [some (xm_r (7, 3, 0)), some (xm_i (3 : Int32)), some (xm_i (6 : Int32)), none] [xm_r (8, 3, 0), xm_r (7, 3, 0)] ((96, 452), (xm_up (xm_up fi (7, 3, 0) 0 (3 : Int32)) (7, 3, 0) 1 (6 : Int32)), fl, r) R
  refine pg_43_18 (en_ok (by decide +kernel)) ?_
  refine pg_43_21 rfl ?_
  refine pg_43_22 (en_ok (by decide +kernel)) rfl ?_
  refine pg_43_25 ?_
  refine pg_43_26 rfl ?_
  refine pg_43_27 (Nat.le_of_ble_eq_true rfl) (ct_1 (x := (6 : Int32))) ?_
  refine pg_43_30 (en_ok (s := 4) (by decide +kernel)) (i := 2) (rfl : (2 : Int32) = nI 2) (by omega) (by omega) ?_
  refine pg_43_31 rfl ?_
  refine pg_43_32 (a := (9, 3, 0)) (en_a (by decide +kernel)) (en_k (by decide +kernel)) ?_
  show xm_G (en 6 L) (d + 1) true 43 35 [some (xm_r (7, 3, 0)), some (xm_i (3 : Int32)), some (xm_i (6 : Int32)), none] [xm_r (9, 3, 0), xm_r (7, 3, 0)] ((97, 454), (xm_up (xm_up (xm_up fi (7, 3, 0) 0 (3 : Int32)) (7, 3, 0) 1 (6 : Int32)) (8, 3, 0) 2 (sp_1 (6 : Int32))), fl, (xm_up r (7, 3, 0) 4 (some (8, 3, 0)))) R
  refine pg_43_35 rfl ?_
  refine pg_43_36 rfl ?_
  refine pg_43_37 (Nat.le_of_ble_eq_true rfl) (ct_61 (m := 6) (b := (10, 3, 0)) (rfl : (6 : Int32) = nI 6) (by decide) (en_a (by decide +kernel)) (en_k (by decide +kernel)) (en_ok (by decide +kernel))) ?_
  show xm_G (en 6 L) (d + 1) true 43 40 [some (xm_r (7, 3, 0)), some (xm_i (3 : Int32)), some (xm_i (6 : Int32)), none] [xm_r (9, 3, 0), xm_r (7, 3, 0)] ((98, 460), (xm_up (xm_up (xm_up fi (7, 3, 0) 0 (3 : Int32)) (7, 3, 0) 1 (6 : Int32)) (8, 3, 0) 2 (sp_1 (6 : Int32))), fl, (xm_up (xm_up r (7, 3, 0) 4 (some (8, 3, 0))) (9, 3, 0) 0 (some (10, 3, 0)))) R
  refine pg_43_40 (en_ok (by decide +kernel)) ?_
  refine pg_43_43 rfl ?_
  refine pg_43_44 rfl ?_
  refine pg_43_45 (n := 6) (rfl : (6 : Int32) = nI 6) (by decide) (en_a (a := (11, 3, 0)) (by decide +kernel)) (en_k (by decide +kernel)) ?_
  show xm_G (en 6 L) (d + 1) true 43 48 [some (xm_r (7, 3, 0)), some (xm_i (3 : Int32)), some (xm_i (6 : Int32)), none] [xm_r (11, 3, 0), xm_r (7, 3, 0)] ((99, 466), (xm_up (xm_up (xm_up fi (7, 3, 0) 0 (3 : Int32)) (7, 3, 0) 1 (6 : Int32)) (8, 3, 0) 2 (sp_1 (6 : Int32))), fl, (xm_up (xm_up (xm_up r (7, 3, 0) 4 (some (8, 3, 0))) (9, 3, 0) 0 (some (10, 3, 0))) (7, 3, 0) 5 (some (9, 3, 0)))) R
  refine pg_43_48 (en_ok (by decide +kernel)) ?_
  refine pg_43_51 ?_
  refine pg_43_52 (lv' := [some (xm_r (7, 3, 0)), some (xm_i (3 : Int32)), some (xm_i (6 : Int32)), some (xm_i (0 : Int32))]) rfl ?_
  refine pg_43_53 rfl ?_
  refine pg_43_54 rfl ?_
  refine pg_43_55 (fun hc => absurd hc (by decide)) (fun _ => ?_)
  refine pg_43_58 rfl ?_
  refine pg_43_59 (en_ok (by decide +kernel)) rfl ?_
  refine pg_43_62 rfl ?_
  refine pg_43_63 (a := (9, 3, 6)) (en_a (by decide +kernel)) (en_k (by decide +kernel)) ?_
  show xm_G (en 6 L) (d + 1) true 43 66 [some (xm_r (7, 3, 0)), some (xm_i (3 : Int32)), some (xm_i (6 : Int32)), some (xm_i (0 : Int32))] [xm_r (9, 3, 6), xm_i (0 : Int32), xm_r (11, 3, 0)] ((100, 468), (xm_up (xm_up (xm_up fi (7, 3, 0) 0 (3 : Int32)) (7, 3, 0) 1 (6 : Int32)) (8, 3, 0) 2 (sp_1 (6 : Int32))), fl, (xm_up (xm_up (xm_up (xm_up r (7, 3, 0) 4 (some (8, 3, 0))) (9, 3, 0) 0 (some (10, 3, 0))) (7, 3, 0) 5 (some (9, 3, 0))) (7, 3, 0) 6 (some (11, 3, 0)))) R
  refine pg_43_66 rfl ?_
  refine pg_43_67 rfl ?_
  refine pg_43_68 (Nat.le_of_ble_eq_true rfl) (ct_61 (m := 6) (b := (10, 3, 6)) (rfl : (6 : Int32) = nI 6) (by decide) (en_a (by decide +kernel)) (en_k (by decide +kernel)) (en_ok (by decide +kernel))) ?_
  show xm_G (en 6 L) (d + 1) true 43 71 [some (xm_r (7, 3, 0)), some (xm_i (3 : Int32)), some (xm_i (6 : Int32)), some (xm_i (0 : Int32))] [xm_r (9, 3, 6), xm_i (0 : Int32), xm_r (11, 3, 0)] ((101, 474), (xm_up (xm_up (xm_up fi (7, 3, 0) 0 (3 : Int32)) (7, 3, 0) 1 (6 : Int32)) (8, 3, 0) 2 (sp_1 (6 : Int32))), fl, (xm_up (xm_up (xm_up (xm_up (xm_up r (7, 3, 0) 4 (some (8, 3, 0))) (9, 3, 0) 0 (some (10, 3, 0))) (7, 3, 0) 5 (some (9, 3, 0))) (7, 3, 0) 6 (some (11, 3, 0))) (9, 3, 6) 0 (some (10, 3, 6)))) R
  refine pg_43_71 (en_ok (t := 4) (s := 0) (by decide +kernel)) (by decide) (by decide) (en_ok (s := 6) (by decide +kernel)) (i := 0) (rfl : (0 : Int32) = nI 0) (by decide) (by decide) ?_
  refine pg_43_72 (y := (1 : Int32)) (lv' := [some (xm_r (7, 3, 0)), some (xm_i (3 : Int32)), some (xm_i (6 : Int32)), some (xm_i (1 : Int32))]) rfl (by decide) rfl ?_
  refine pg_43_75 ?_
  refine pg_43_53 rfl ?_
  refine pg_43_54 rfl ?_
  refine pg_43_55 (fun hc => absurd hc (by decide)) (fun _ => ?_)
  refine pg_43_58 rfl ?_
  refine pg_43_59 (en_ok (by decide +kernel)) rfl ?_
  refine pg_43_62 rfl ?_
  refine pg_43_63 (a := (9, 3, 7)) (en_a (by decide +kernel)) (en_k (by decide +kernel)) ?_
  show xm_G (en 6 L) (d + 1) true 43 66 [some (xm_r (7, 3, 0)), some (xm_i (3 : Int32)), some (xm_i (6 : Int32)), some (xm_i (1 : Int32))] [xm_r (9, 3, 7), xm_i (1 : Int32), xm_r (11, 3, 0)] ((102, 476), (xm_up (xm_up (xm_up fi (7, 3, 0) 0 (3 : Int32)) (7, 3, 0) 1 (6 : Int32)) (8, 3, 0) 2 (sp_1 (6 : Int32))), fl, (xm_up (xm_up (xm_up (xm_up (xm_up (xm_up r (7, 3, 0) 4 (some (8, 3, 0))) (9, 3, 0) 0 (some (10, 3, 0))) (7, 3, 0) 5 (some (9, 3, 0))) (7, 3, 0) 6 (some (11, 3, 0))) (9, 3, 6) 0 (some (10, 3, 6))) (11, 3, 0) 0 (some (9, 3, 6)))) R
  refine pg_43_66 rfl ?_
  refine pg_43_67 rfl ?_
  refine pg_43_68 (Nat.le_of_ble_eq_true rfl) (ct_61 (m := 6) (b := (10, 3, 7)) (rfl : (6 : Int32) = nI 6) (by decide) (en_a (by decide +kernel)) (en_k (by decide +kernel)) (en_ok (by decide +kernel))) ?_
  show xm_G (en 6 L) (d + 1) true 43 71 [some (xm_r (7, 3, 0)), some (xm_i (3 : Int32)), some (xm_i (6 : Int32)), some (xm_i (1 : Int32))] [xm_r (9, 3, 7), xm_i (1 : Int32), xm_r (11, 3, 0)] ((103, 482), (xm_up (xm_up (xm_up fi (7, 3, 0) 0 (3 : Int32)) (7, 3, 0) 1 (6 : Int32)) (8, 3, 0) 2 (sp_1 (6 : Int32))), fl, (xm_up (xm_up (xm_up (xm_up (xm_up (xm_up (xm_up r (7, 3, 0) 4 (some (8, 3, 0))) (9, 3, 0) 0 (some (10, 3, 0))) (7, 3, 0) 5 (some (9, 3, 0))) (7, 3, 0) 6 (some (11, 3, 0))) (9, 3, 6) 0 (some (10, 3, 6))) (11, 3, 0) 0 (some (9, 3, 6))) (9, 3, 7) 0 (some (10, 3, 7)))) R
  refine pg_43_71 (en_ok (t := 4) (s := 0) (by decide +kernel)) (by decide) (by decide) (en_ok (s := 6) (by decide +kernel)) (i := 1) (rfl : (1 : Int32) = nI 1) (by decide) (by decide) ?_
  refine pg_43_72 (y := (2 : Int32)) (lv' := [some (xm_r (7, 3, 0)), some (xm_i (3 : Int32)), some (xm_i (6 : Int32)), some (xm_i (2 : Int32))]) rfl (by decide) rfl ?_
  refine pg_43_75 ?_
  refine pg_43_53 rfl ?_
  refine pg_43_54 rfl ?_
  refine pg_43_55 (fun hc => absurd hc (by decide)) (fun _ => ?_)
  refine pg_43_58 rfl ?_
  refine pg_43_59 (en_ok (by decide +kernel)) rfl ?_
  refine pg_43_62 rfl ?_
  refine pg_43_63 (a := (9, 3, 8)) (en_a (by decide +kernel)) (en_k (by decide +kernel)) ?_
  show xm_G (en 6 L) (d + 1) true 43 66 [some (xm_r (7, 3, 0)), some (xm_i (3 : Int32)), some (xm_i (6 : Int32)), some (xm_i (2 : Int32))] [xm_r (9, 3, 8), xm_i (2 : Int32), xm_r (11, 3, 0)] ((104, 484), (xm_up (xm_up (xm_up fi (7, 3, 0) 0 (3 : Int32)) (7, 3, 0) 1 (6 : Int32)) (8, 3, 0) 2 (sp_1 (6 : Int32))), fl, (xm_up (xm_up (xm_up (xm_up (xm_up (xm_up (xm_up (xm_up r (7, 3, 0) 4 (some (8, 3, 0))) (9, 3, 0) 0 (some (10, 3, 0))) (7, 3, 0) 5 (some (9, 3, 0))) (7, 3, 0) 6 (some (11, 3, 0))) (9, 3, 6) 0 (some (10, 3, 6))) (11, 3, 0) 0 (some (9, 3, 6))) (9, 3, 7) 0 (some (10, 3, 7))) (11, 3, 0) 1 (some (9, 3, 7)))) R
  refine pg_43_66 rfl ?_
  refine pg_43_67 rfl ?_
  refine pg_43_68 (Nat.le_of_ble_eq_true rfl) (ct_61 (m := 6) (b := (10, 3, 8)) (rfl : (6 : Int32) = nI 6) (by decide) (en_a (by decide +kernel)) (en_k (by decide +kernel)) (en_ok (by decide +kernel))) ?_
  show xm_G (en 6 L) (d + 1) true 43 71 [some (xm_r (7, 3, 0)), some (xm_i (3 : Int32)), some (xm_i (6 : Int32)), some (xm_i (2 : Int32))] [xm_r (9, 3, 8), xm_i (2 : Int32), xm_r (11, 3, 0)] ((105, 490), (xm_up (xm_up (xm_up fi (7, 3, 0) 0 (3 : Int32)) (7, 3, 0) 1 (6 : Int32)) (8, 3, 0) 2 (sp_1 (6 : Int32))), fl, (xm_up (xm_up (xm_up (xm_up (xm_up (xm_up (xm_up (xm_up (xm_up r (7, 3, 0) 4 (some (8, 3, 0))) (9, 3, 0) 0 (some (10, 3, 0))) (7, 3, 0) 5 (some (9, 3, 0))) (7, 3, 0) 6 (some (11, 3, 0))) (9, 3, 6) 0 (some (10, 3, 6))) (11, 3, 0) 0 (some (9, 3, 6))) (9, 3, 7) 0 (some (10, 3, 7))) (11, 3, 0) 1 (some (9, 3, 7))) (9, 3, 8) 0 (some (10, 3, 8)))) R
  refine pg_43_71 (en_ok (t := 4) (s := 0) (by decide +kernel)) (by decide) (by decide) (en_ok (s := 6) (by decide +kernel)) (i := 2) (rfl : (2 : Int32) = nI 2) (by decide) (by decide) ?_
  refine pg_43_72 (y := (3 : Int32)) (lv' := [some (xm_r (7, 3, 0)), some (xm_i (3 : Int32)), some (xm_i (6 : Int32)), some (xm_i (3 : Int32))]) rfl (by decide) rfl ?_
  refine pg_43_75 ?_
  refine pg_43_53 rfl ?_
  refine pg_43_54 rfl ?_
  refine pg_43_55 (fun hc => absurd hc (by decide)) (fun _ => ?_)
  refine pg_43_58 rfl ?_
  refine pg_43_59 (en_ok (by decide +kernel)) rfl ?_
  refine pg_43_62 rfl ?_
  refine pg_43_63 (a := (9, 3, 9)) (en_a (by decide +kernel)) (en_k (by decide +kernel)) ?_
  show xm_G (en 6 L) (d + 1) true 43 66 [some (xm_r (7, 3, 0)), some (xm_i (3 : Int32)), some (xm_i (6 : Int32)), some (xm_i (3 : Int32))] [xm_r (9, 3, 9), xm_i (3 : Int32), xm_r (11, 3, 0)] ((106, 492), (xm_up (xm_up (xm_up fi (7, 3, 0) 0 (3 : Int32)) (7, 3, 0) 1 (6 : Int32)) (8, 3, 0) 2 (sp_1 (6 : Int32))), fl, (xm_up (xm_up (xm_up (xm_up (xm_up (xm_up (xm_up (xm_up (xm_up (xm_up r (7, 3, 0) 4 (some (8, 3, 0))) (9, 3, 0) 0 (some (10, 3, 0))) (7, 3, 0) 5 (some (9, 3, 0))) (7, 3, 0) 6 (some (11, 3, 0))) (9, 3, 6) 0 (some (10, 3, 6))) (11, 3, 0) 0 (some (9, 3, 6))) (9, 3, 7) 0 (some (10, 3, 7))) (11, 3, 0) 1 (some (9, 3, 7))) (9, 3, 8) 0 (some (10, 3, 8))) (11, 3, 0) 2 (some (9, 3, 8)))) R
  refine pg_43_66 rfl ?_
  refine pg_43_67 rfl ?_
  refine pg_43_68 (Nat.le_of_ble_eq_true rfl) (ct_61 (m := 6) (b := (10, 3, 9)) (rfl : (6 : Int32) = nI 6) (by decide) (en_a (by decide +kernel)) (en_k (by decide +kernel)) (en_ok (by decide +kernel))) ?_
  show xm_G (en 6 L) (d + 1) true 43 71 [some (xm_r (7, 3, 0)), some (xm_i (3 : Int32)), some (xm_i (6 : Int32)), some (xm_i (3 : Int32))] [xm_r (9, 3, 9), xm_i (3 : Int32), xm_r (11, 3, 0)] ((107, 498), (xm_up (xm_up (xm_up fi (7, 3, 0) 0 (3 : Int32)) (7, 3, 0) 1 (6 : Int32)) (8, 3, 0) 2 (sp_1 (6 : Int32))), fl, (xm_up (xm_up (xm_up (xm_up (xm_up (xm_up (xm_up (xm_up (xm_up (xm_up (xm_up r (7, 3, 0) 4 (some (8, 3, 0))) (9, 3, 0) 0 (some (10, 3, 0))) (7, 3, 0) 5 (some (9, 3, 0))) (7, 3, 0) 6 (some (11, 3, 0))) (9, 3, 6) 0 (some (10, 3, 6))) (11, 3, 0) 0 (some (9, 3, 6))) (9, 3, 7) 0 (some (10, 3, 7))) (11, 3, 0) 1 (some (9, 3, 7))) (9, 3, 8) 0 (some (10, 3, 8))) (11, 3, 0) 2 (some (9, 3, 8))) (9, 3, 9) 0 (some (10, 3, 9)))) R
  refine pg_43_71 (en_ok (t := 4) (s := 0) (by decide +kernel)) (by decide) (by decide) (en_ok (s := 6) (by decide +kernel)) (i := 3) (rfl : (3 : Int32) = nI 3) (by decide) (by decide) ?_
  refine pg_43_72 (y := (4 : Int32)) (lv' := [some (xm_r (7, 3, 0)), some (xm_i (3 : Int32)), some (xm_i (6 : Int32)), some (xm_i (4 : Int32))]) rfl (by decide) rfl ?_
  refine pg_43_75 ?_
  refine pg_43_53 rfl ?_
  refine pg_43_54 rfl ?_
  refine pg_43_55 (fun hc => absurd hc (by decide)) (fun _ => ?_)
  refine pg_43_58 rfl ?_
  refine pg_43_59 (en_ok (by decide +kernel)) rfl ?_
  refine pg_43_62 rfl ?_
  refine pg_43_63 (a := (9, 3, 10)) (en_a (by decide +kernel)) (en_k (by decide +kernel)) ?_
  show xm_G (en 6 L) (d + 1) true 43 66 [some (xm_r (7, 3, 0)), some (xm_i (3 : Int32)), some (xm_i (6 : Int32)), some (xm_i (4 : Int32))] [xm_r (9, 3, 10), xm_i (4 : Int32), xm_r (11, 3, 0)] ((108, 500), (xm_up (xm_up (xm_up fi (7, 3, 0) 0 (3 : Int32)) (7, 3, 0) 1 (6 : Int32)) (8, 3, 0) 2 (sp_1 (6 : Int32))), fl, (xm_up (xm_up (xm_up (xm_up (xm_up (xm_up (xm_up (xm_up (xm_up (xm_up (xm_up (xm_up r (7, 3, 0) 4 (some (8, 3, 0))) (9, 3, 0) 0 (some (10, 3, 0))) (7, 3, 0) 5 (some (9, 3, 0))) (7, 3, 0) 6 (some (11, 3, 0))) (9, 3, 6) 0 (some (10, 3, 6))) (11, 3, 0) 0 (some (9, 3, 6))) (9, 3, 7) 0 (some (10, 3, 7))) (11, 3, 0) 1 (some (9, 3, 7))) (9, 3, 8) 0 (some (10, 3, 8))) (11, 3, 0) 2 (some (9, 3, 8))) (9, 3, 9) 0 (some (10, 3, 9))) (11, 3, 0) 3 (some (9, 3, 9)))) R
  refine pg_43_66 rfl ?_
  refine pg_43_67 rfl ?_
  refine pg_43_68 (Nat.le_of_ble_eq_true rfl) (ct_61 (m := 6) (b := (10, 3, 10)) (rfl : (6 : Int32) = nI 6) (by decide) (en_a (by decide +kernel)) (en_k (by decide +kernel)) (en_ok (by decide +kernel))) ?_
  show xm_G (en 6 L) (d + 1) true 43 71 [some (xm_r (7, 3, 0)), some (xm_i (3 : Int32)), some (xm_i (6 : Int32)), some (xm_i (4 : Int32))] [xm_r (9, 3, 10), xm_i (4 : Int32), xm_r (11, 3, 0)] ((109, 506), (xm_up (xm_up (xm_up fi (7, 3, 0) 0 (3 : Int32)) (7, 3, 0) 1 (6 : Int32)) (8, 3, 0) 2 (sp_1 (6 : Int32))), fl, (xm_up (xm_up (xm_up (xm_up (xm_up (xm_up (xm_up (xm_up (xm_up (xm_up (xm_up (xm_up (xm_up r (7, 3, 0) 4 (some (8, 3, 0))) (9, 3, 0) 0 (some (10, 3, 0))) (7, 3, 0) 5 (some (9, 3, 0))) (7, 3, 0) 6 (some (11, 3, 0))) (9, 3, 6) 0 (some (10, 3, 6))) (11, 3, 0) 0 (some (9, 3, 6))) (9, 3, 7) 0 (some (10, 3, 7))) (11, 3, 0) 1 (some (9, 3, 7))) (9, 3, 8) 0 (some (10, 3, 8))) (11, 3, 0) 2 (some (9, 3, 8))) (9, 3, 9) 0 (some (10, 3, 9))) (11, 3, 0) 3 (some (9, 3, 9))) (9, 3, 10) 0 (some (10, 3, 10)))) R
  refine pg_43_71 (en_ok (t := 4) (s := 0) (by decide +kernel)) (by decide) (by decide) (en_ok (s := 6) (by decide +kernel)) (i := 4) (rfl : (4 : Int32) = nI 4) (by decide) (by decide) ?_
  refine pg_43_72 (y := (5 : Int32)) (lv' := [some (xm_r (7, 3, 0)), some (xm_i (3 : Int32)), some (xm_i (6 : Int32)), some (xm_i (5 : Int32))]) rfl (by decide) rfl ?_
  refine pg_43_75 ?_
  refine pg_43_53 rfl ?_
  refine pg_43_54 rfl ?_
  refine pg_43_55 (fun hc => absurd hc (by decide)) (fun _ => ?_)
  refine pg_43_58 rfl ?_
  refine pg_43_59 (en_ok (by decide +kernel)) rfl ?_
  refine pg_43_62 rfl ?_
  refine pg_43_63 (a := (9, 3, 11)) (en_a (by decide +kernel)) (en_k (by decide +kernel)) ?_
  show xm_G (en 6 L) (d + 1) true 43 66 [some (xm_r (7, 3, 0)), some (xm_i (3 : Int32)), some (xm_i (6 : Int32)), some (xm_i (5 : Int32))] [xm_r (9, 3, 11), xm_i (5 : Int32), xm_r (11, 3, 0)] ((110, 508), (xm_up (xm_up (xm_up fi (7, 3, 0) 0 (3 : Int32)) (7, 3, 0) 1 (6 : Int32)) (8, 3, 0) 2 (sp_1 (6 : Int32))), fl, (xm_up (xm_up (xm_up (xm_up (xm_up (xm_up (xm_up (xm_up (xm_up (xm_up (xm_up (xm_up (xm_up (xm_up r (7, 3, 0) 4 (some (8, 3, 0))) (9, 3, 0) 0 (some (10, 3, 0))) (7, 3, 0) 5 (some (9, 3, 0))) (7, 3, 0) 6 (some (11, 3, 0))) (9, 3, 6) 0 (some (10, 3, 6))) (11, 3, 0) 0 (some (9, 3, 6))) (9, 3, 7) 0 (some (10, 3, 7))) (11, 3, 0) 1 (some (9, 3, 7))) (9, 3, 8) 0 (some (10, 3, 8))) (11, 3, 0) 2 (some (9, 3, 8))) (9, 3, 9) 0 (some (10, 3, 9))) (11, 3, 0) 3 (some (9, 3, 9))) (9, 3, 10) 0 (some (10, 3, 10))) (11, 3, 0) 4 (some (9, 3, 10)))) R
  refine pg_43_66 rfl ?_
  refine pg_43_67 rfl ?_
  refine pg_43_68 (Nat.le_of_ble_eq_true rfl) (ct_61 (m := 6) (b := (10, 3, 11)) (rfl : (6 : Int32) = nI 6) (by decide) (en_a (by decide +kernel)) (en_k (by decide +kernel)) (en_ok (by decide +kernel))) ?_
  show xm_G (en 6 L) (d + 1) true 43 71 [some (xm_r (7, 3, 0)), some (xm_i (3 : Int32)), some (xm_i (6 : Int32)), some (xm_i (5 : Int32))] [xm_r (9, 3, 11), xm_i (5 : Int32), xm_r (11, 3, 0)] ((111, 514), (xm_up (xm_up (xm_up fi (7, 3, 0) 0 (3 : Int32)) (7, 3, 0) 1 (6 : Int32)) (8, 3, 0) 2 (sp_1 (6 : Int32))), fl, (xm_up (xm_up (xm_up (xm_up (xm_up (xm_up (xm_up (xm_up (xm_up (xm_up (xm_up (xm_up (xm_up (xm_up (xm_up r (7, 3, 0) 4 (some (8, 3, 0))) (9, 3, 0) 0 (some (10, 3, 0))) (7, 3, 0) 5 (some (9, 3, 0))) (7, 3, 0) 6 (some (11, 3, 0))) (9, 3, 6) 0 (some (10, 3, 6))) (11, 3, 0) 0 (some (9, 3, 6))) (9, 3, 7) 0 (some (10, 3, 7))) (11, 3, 0) 1 (some (9, 3, 7))) (9, 3, 8) 0 (some (10, 3, 8))) (11, 3, 0) 2 (some (9, 3, 8))) (9, 3, 9) 0 (some (10, 3, 9))) (11, 3, 0) 3 (some (9, 3, 9))) (9, 3, 10) 0 (some (10, 3, 10))) (11, 3, 0) 4 (some (9, 3, 10))) (9, 3, 11) 0 (some (10, 3, 11)))) R
  refine pg_43_71 (en_ok (t := 4) (s := 0) (by decide +kernel)) (by decide) (by decide) (en_ok (s := 6) (by decide +kernel)) (i := 5) (rfl : (5 : Int32) = nI 5) (by decide) (by decide) ?_
  refine pg_43_72 (y := (6 : Int32)) (lv' := [some (xm_r (7, 3, 0)), some (xm_i (3 : Int32)), some (xm_i (6 : Int32)), some (xm_i (6 : Int32))]) rfl (by decide) rfl ?_
  refine pg_43_75 ?_
  refine pg_43_53 rfl ?_
  refine pg_43_54 rfl ?_
  refine pg_43_55 (fun _ => ?_) (fun hc => absurd (by decide) hc)
  refine pg_43_78 rfl ?_
  refine pg_43_79 ?_
  refine pg_43_80 (n := 4) (rfl : (4 : Int32) = nI 4) (by decide) (en_a (a := (12, 3, 0)) (by decide +kernel)) (en_k (by decide +kernel)) ?_
  show xm_G (en 6 L) (d + 1) true 43 83 [some (xm_r (7, 3, 0)), some (xm_i (3 : Int32)), some (xm_i (6 : Int32)), some (xm_i (6 : Int32))] [xm_r (12, 3, 0), xm_r (7, 3, 0)] ((112, 518), (xm_up (xm_up (xm_up fi (7, 3, 0) 0 (3 : Int32)) (7, 3, 0) 1 (6 : Int32)) (8, 3, 0) 2 (sp_1 (6 : Int32))), fl, (xm_up (xm_up (xm_up (xm_up (xm_up (xm_up (xm_up (xm_up (xm_up (xm_up (xm_up (xm_up (xm_up (xm_up (xm_up (xm_up r (7, 3, 0) 4 (some (8, 3, 0))) (9, 3, 0) 0 (some (10, 3, 0))) (7, 3, 0) 5 (some (9, 3, 0))) (7, 3, 0) 6 (some (11, 3, 0))) (9, 3, 6) 0 (some (10, 3, 6))) (11, 3, 0) 0 (some (9, 3, 6))) (9, 3, 7) 0 (some (10, 3, 7))) (11, 3, 0) 1 (some (9, 3, 7))) (9, 3, 8) 0 (some (10, 3, 8))) (11, 3, 0) 2 (some (9, 3, 8))) (9, 3, 9) 0 (some (10, 3, 9))) (11, 3, 0) 3 (some (9, 3, 9))) (9, 3, 10) 0 (some (10, 3, 10))) (11, 3, 0) 4 (some (9, 3, 10))) (9, 3, 11) 0 (some (10, 3, 11))) (11, 3, 0) 5 (some (9, 3, 11)))) R
  refine pg_43_83 (en_ok (by decide +kernel)) ?_
  refine pg_43_86 ?_
  refine pg_43_87 (lv' := [some (xm_r (7, 3, 0)), some (xm_i (3 : Int32)), some (xm_i (6 : Int32)), some (xm_i (0 : Int32))]) rfl ?_
  refine pg_43_88 rfl ?_
  refine pg_43_89 ?_
  refine pg_43_90 (fun hc => absurd hc (by decide)) (fun _ => ?_)
  refine pg_43_93 rfl ?_
  refine pg_43_94 (en_ok (by decide +kernel)) rfl ?_
  refine pg_43_97 rfl ?_
  refine pg_43_98 (a := (9, 3, 2)) (en_a (by decide +kernel)) (en_k (by decide +kernel)) ?_
  show xm_G (en 6 L) (d + 1) true 43 101 [some (xm_r (7, 3, 0)), some (xm_i (3 : Int32)), some (xm_i (6 : Int32)), some (xm_i (0 : Int32))] [xm_r (9, 3, 2), xm_i (0 : Int32), xm_r (12, 3, 0)] ((113, 520), (xm_up (xm_up (xm_up fi (7, 3, 0) 0 (3 : Int32)) (7, 3, 0) 1 (6 : Int32)) (8, 3, 0) 2 (sp_1 (6 : Int32))), fl, (xm_up (xm_up (xm_up (xm_up (xm_up (xm_up (xm_up (xm_up (xm_up (xm_up (xm_up (xm_up (xm_up (xm_up (xm_up (xm_up (xm_up r (7, 3, 0) 4 (some (8, 3, 0))) (9, 3, 0) 0 (some (10, 3, 0))) (7, 3, 0) 5 (some (9, 3, 0))) (7, 3, 0) 6 (some (11, 3, 0))) (9, 3, 6) 0 (some (10, 3, 6))) (11, 3, 0) 0 (some (9, 3, 6))) (9, 3, 7) 0 (some (10, 3, 7))) (11, 3, 0) 1 (some (9, 3, 7))) (9, 3, 8) 0 (some (10, 3, 8))) (11, 3, 0) 2 (some (9, 3, 8))) (9, 3, 9) 0 (some (10, 3, 9))) (11, 3, 0) 3 (some (9, 3, 9))) (9, 3, 10) 0 (some (10, 3, 10))) (11, 3, 0) 4 (some (9, 3, 10))) (9, 3, 11) 0 (some (10, 3, 11))) (11, 3, 0) 5 (some (9, 3, 11))) (7, 3, 0) 7 (some (12, 3, 0)))) R
  refine pg_43_101 rfl ?_
  refine pg_43_102 rfl ?_
  refine pg_43_103 (Nat.le_of_ble_eq_true rfl) (ct_61 (m := 6) (b := (10, 3, 2)) (rfl : (6 : Int32) = nI 6) (by decide) (en_a (by decide +kernel)) (en_k (by decide +kernel)) (en_ok (by decide +kernel))) ?_
  show xm_G (en 6 L) (d + 1) true 43 106 [some (xm_r (7, 3, 0)), some (xm_i (3 : Int32)), some (xm_i (6 : Int32)), some (xm_i (0 : Int32))] [xm_r (9, 3, 2), xm_i (0 : Int32), xm_r (12, 3, 0)] ((114, 526), (xm_up (xm_up (xm_up fi (7, 3, 0) 0 (3 : Int32)) (7, 3, 0) 1 (6 : Int32)) (8, 3, 0) 2 (sp_1 (6 : Int32))), fl, (xm_up (xm_up (xm_up (xm_up (xm_up (xm_up (xm_up (xm_up (xm_up (xm_up (xm_up (xm_up (xm_up (xm_up (xm_up (xm_up (xm_up (xm_up r (7, 3, 0) 4 (some (8, 3, 0))) (9, 3, 0) 0 (some (10, 3, 0))) (7, 3, 0) 5 (some (9, 3, 0))) (7, 3, 0) 6 (some (11, 3, 0))) (9, 3, 6) 0 (some (10, 3, 6))) (11, 3, 0) 0 (some (9, 3, 6))) (9, 3, 7) 0 (some (10, 3, 7))) (11, 3, 0) 1 (some (9, 3, 7))) (9, 3, 8) 0 (some (10, 3, 8))) (11, 3, 0) 2 (some (9, 3, 8))) (9, 3, 9) 0 (some (10, 3, 9))) (11, 3, 0) 3 (some (9, 3, 9))) (9, 3, 10) 0 (some (10, 3, 10))) (11, 3, 0) 4 (some (9, 3, 10))) (9, 3, 11) 0 (some (10, 3, 11))) (11, 3, 0) 5 (some (9, 3, 11))) (7, 3, 0) 7 (some (12, 3, 0))) (9, 3, 2) 0 (some (10, 3, 2)))) R
  refine pg_43_106 (en_ok (t := 4) (s := 0) (by decide +kernel)) (by decide) (by decide) (en_ok (s := 4) (by decide +kernel)) (i := 0) (rfl : (0 : Int32) = nI 0) (by decide) (by decide) ?_
  refine pg_43_107 (y := (1 : Int32)) (lv' := [some (xm_r (7, 3, 0)), some (xm_i (3 : Int32)), some (xm_i (6 : Int32)), some (xm_i (1 : Int32))]) rfl (by decide) rfl ?_
  refine pg_43_110 ?_
  refine pg_43_88 rfl ?_
  refine pg_43_89 ?_
  refine pg_43_90 (fun hc => absurd hc (by decide)) (fun _ => ?_)
  refine pg_43_93 rfl ?_
  refine pg_43_94 (en_ok (by decide +kernel)) rfl ?_
  refine pg_43_97 rfl ?_
  refine pg_43_98 (a := (9, 3, 3)) (en_a (by decide +kernel)) (en_k (by decide +kernel)) ?_
  show xm_G (en 6 L) (d + 1) true 43 101 [some (xm_r (7, 3, 0)), some (xm_i (3 : Int32)), some (xm_i (6 : Int32)), some (xm_i (1 : Int32))] [xm_r (9, 3, 3), xm_i (1 : Int32), xm_r (12, 3, 0)] ((115, 528), (xm_up (xm_up (xm_up fi (7, 3, 0) 0 (3 : Int32)) (7, 3, 0) 1 (6 : Int32)) (8, 3, 0) 2 (sp_1 (6 : Int32))), fl, (xm_up (xm_up (xm_up (xm_up (xm_up (xm_up (xm_up (xm_up (xm_up (xm_up (xm_up (xm_up (xm_up (xm_up (xm_up (xm_up (xm_up (xm_up (xm_up r (7, 3, 0) 4 (some (8, 3, 0))) (9, 3, 0) 0 (some (10, 3, 0))) (7, 3, 0) 5 (some (9, 3, 0))) (7, 3, 0) 6 (some (11, 3, 0))) (9, 3, 6) 0 (some (10, 3, 6))) (11, 3, 0) 0 (some (9, 3, 6))) (9, 3, 7) 0 (some (10, 3, 7))) (11, 3, 0) 1 (some (9, 3, 7))) (9, 3, 8) 0 (some (10, 3, 8))) (11, 3, 0) 2 (some (9, 3, 8))) (9, 3, 9) 0 (some (10, 3, 9))) (11, 3, 0) 3 (some (9, 3, 9))) (9, 3, 10) 0 (some (10, 3, 10))) (11, 3, 0) 4 (some (9, 3, 10))) (9, 3, 11) 0 (some (10, 3, 11))) (11, 3, 0) 5 (some (9, 3, 11))) (7, 3, 0) 7 (some (12, 3, 0))) (9, 3, 2) 0 (some (10, 3, 2))) (12, 3, 0) 0 (some (9, 3, 2)))) R
  refine pg_43_101 rfl ?_
  refine pg_43_102 rfl ?_
  refine pg_43_103 (Nat.le_of_ble_eq_true rfl) (ct_61 (m := 6) (b := (10, 3, 3)) (rfl : (6 : Int32) = nI 6) (by decide) (en_a (by decide +kernel)) (en_k (by decide +kernel)) (en_ok (by decide +kernel))) ?_
  show xm_G (en 6 L) (d + 1) true 43 106 [some (xm_r (7, 3, 0)), some (xm_i (3 : Int32)), some (xm_i (6 : Int32)), some (xm_i (1 : Int32))] [xm_r (9, 3, 3), xm_i (1 : Int32), xm_r (12, 3, 0)] ((116, 534), (xm_up (xm_up (xm_up fi (7, 3, 0) 0 (3 : Int32)) (7, 3, 0) 1 (6 : Int32)) (8, 3, 0) 2 (sp_1 (6 : Int32))), fl, (xm_up (xm_up (xm_up (xm_up (xm_up (xm_up (xm_up (xm_up (xm_up (xm_up (xm_up (xm_up (xm_up (xm_up (xm_up (xm_up (xm_up (xm_up (xm_up (xm_up r (7, 3, 0) 4 (some (8, 3, 0))) (9, 3, 0) 0 (some (10, 3, 0))) (7, 3, 0) 5 (some (9, 3, 0))) (7, 3, 0) 6 (some (11, 3, 0))) (9, 3, 6) 0 (some (10, 3, 6))) (11, 3, 0) 0 (some (9, 3, 6))) (9, 3, 7) 0 (some (10, 3, 7))) (11, 3, 0) 1 (some (9, 3, 7))) (9, 3, 8) 0 (some (10, 3, 8))) (11, 3, 0) 2 (some (9, 3, 8))) (9, 3, 9) 0 (some (10, 3, 9))) (11, 3, 0) 3 (some (9, 3, 9))) (9, 3, 10) 0 (some (10, 3, 10))) (11, 3, 0) 4 (some (9, 3, 10))) (9, 3, 11) 0 (some (10, 3, 11))) (11, 3, 0) 5 (some (9, 3, 11))) (7, 3, 0) 7 (some (12, 3, 0))) (9, 3, 2) 0 (some (10, 3, 2))) (12, 3, 0) 0 (some (9, 3, 2))) (9, 3, 3) 0 (some (10, 3, 3)))) R
  refine pg_43_106 (en_ok (t := 4) (s := 0) (by decide +kernel)) (by decide) (by decide) (en_ok (s := 4) (by decide +kernel)) (i := 1) (rfl : (1 : Int32) = nI 1) (by decide) (by decide) ?_
  refine pg_43_107 (y := (2 : Int32)) (lv' := [some (xm_r (7, 3, 0)), some (xm_i (3 : Int32)), some (xm_i (6 : Int32)), some (xm_i (2 : Int32))]) rfl (by decide) rfl ?_
  refine pg_43_110 ?_
  refine pg_43_88 rfl ?_
  refine pg_43_89 ?_
  refine pg_43_90 (fun hc => absurd hc (by decide)) (fun _ => ?_)
  refine pg_43_93 rfl ?_
  refine pg_43_94 (en_ok (by decide +kernel)) rfl ?_
  refine pg_43_97 rfl ?_
  refine pg_43_98 (a := (9, 3, 4)) (en_a (by decide +kernel)) (en_k (by decide +kernel)) ?_
  show xm_G (en 6 L) (d + 1) true 43 101 [some (xm_r (7, 3, 0)), some (xm_i (3 : Int32)), some (xm_i (6 : Int32)), some (xm_i (2 : Int32))] [xm_r (9, 3, 4), xm_i (2 : Int32), xm_r (12, 3, 0)] ((117, 536), (xm_up (xm_up (xm_up fi (7, 3, 0) 0 (3 : Int32)) (7, 3, 0) 1 (6 : Int32)) (8, 3, 0) 2 (sp_1 (6 : Int32))), fl, (xm_up (xm_up (xm_up (xm_up (xm_up (xm_up (xm_up (xm_up (xm_up (xm_up (xm_up (xm_up (xm_up (xm_up (xm_up (xm_up (xm_up (xm_up (xm_up (xm_up (xm_up r (7, 3, 0) 4 (some (8, 3, 0))) (9, 3, 0) 0 (some (10, 3, 0))) (7, 3, 0) 5 (some (9, 3, 0))) (7, 3, 0) 6 (some (11, 3, 0))) (9, 3, 6) 0 (some (10, 3, 6))) (11, 3, 0) 0 (some (9, 3, 6))) (9, 3, 7) 0 (some (10, 3, 7))) (11, 3, 0) 1 (some (9, 3, 7))) (9, 3, 8) 0 (some (10, 3, 8))) (11, 3, 0) 2 (some (9, 3, 8))) (9, 3, 9) 0 (some (10, 3, 9))) (11, 3, 0) 3 (some (9, 3, 9))) (9, 3, 10) 0 (some (10, 3, 10))) (11, 3, 0) 4 (some (9, 3, 10))) (9, 3, 11) 0 (some (10, 3, 11))) (11, 3, 0) 5 (some (9, 3, 11))) (7, 3, 0) 7 (some (12, 3, 0))) (9, 3, 2) 0 (some (10, 3, 2))) (12, 3, 0) 0 (some (9, 3, 2))) (9, 3, 3) 0 (some (10, 3, 3))) (12, 3, 0) 1 (some (9, 3, 3)))) R
  refine pg_43_101 rfl ?_
  refine pg_43_102 rfl ?_
  refine pg_43_103 (Nat.le_of_ble_eq_true rfl) (ct_61 (m := 6) (b := (10, 3, 4)) (rfl : (6 : Int32) = nI 6) (by decide) (en_a (by decide +kernel)) (en_k (by decide +kernel)) (en_ok (by decide +kernel))) ?_
  show xm_G (en 6 L) (d + 1) true 43 106 [some (xm_r (7, 3, 0)), some (xm_i (3 : Int32)), some (xm_i (6 : Int32)), some (xm_i (2 : Int32))] [xm_r (9, 3, 4), xm_i (2 : Int32), xm_r (12, 3, 0)] ((118, 542), (xm_up (xm_up (xm_up fi (7, 3, 0) 0 (3 : Int32)) (7, 3, 0) 1 (6 : Int32)) (8, 3, 0) 2 (sp_1 (6 : Int32))), fl, (xm_up (xm_up (xm_up (xm_up (xm_up (xm_up (xm_up (xm_up (xm_up (xm_up (xm_up (xm_up (xm_up (xm_up (xm_up (xm_up (xm_up (xm_up (xm_up (xm_up (xm_up (xm_up r (7, 3, 0) 4 (some (8, 3, 0))) (9, 3, 0) 0 (some (10, 3, 0))) (7, 3, 0) 5 (some (9, 3, 0))) (7, 3, 0) 6 (some (11, 3, 0))) (9, 3, 6) 0 (some (10, 3, 6))) (11, 3, 0) 0 (some (9, 3, 6))) (9, 3, 7) 0 (some (10, 3, 7))) (11, 3, 0) 1 (some (9, 3, 7))) (9, 3, 8) 0 (some (10, 3, 8))) (11, 3, 0) 2 (some (9, 3, 8))) (9, 3, 9) 0 (some (10, 3, 9))) (11, 3, 0) 3 (some (9, 3, 9))) (9, 3, 10) 0 (some (10, 3, 10))) (11, 3, 0) 4 (some (9, 3, 10))) (9, 3, 11) 0 (some (10, 3, 11))) (11, 3, 0) 5 (some (9, 3, 11))) (7, 3, 0) 7 (some (12, 3, 0))) (9, 3, 2) 0 (some (10, 3, 2))) (12, 3, 0) 0 (some (9, 3, 2))) (9, 3, 3) 0 (some (10, 3, 3))) (12, 3, 0) 1 (some (9, 3, 3))) (9, 3, 4) 0 (some (10, 3, 4)))) R
  refine pg_43_106 (en_ok (t := 4) (s := 0) (by decide +kernel)) (by decide) (by decide) (en_ok (s := 4) (by decide +kernel)) (i := 2) (rfl : (2 : Int32) = nI 2) (by decide) (by decide) ?_
  refine pg_43_107 (y := (3 : Int32)) (lv' := [some (xm_r (7, 3, 0)), some (xm_i (3 : Int32)), some (xm_i (6 : Int32)), some (xm_i (3 : Int32))]) rfl (by decide) rfl ?_
  refine pg_43_110 ?_
  refine pg_43_88 rfl ?_
  refine pg_43_89 ?_
  refine pg_43_90 (fun hc => absurd hc (by decide)) (fun _ => ?_)
  refine pg_43_93 rfl ?_
  refine pg_43_94 (en_ok (by decide +kernel)) rfl ?_
  refine pg_43_97 rfl ?_
  refine pg_43_98 (a := (9, 3, 5)) (en_a (by decide +kernel)) (en_k (by decide +kernel)) ?_
  show xm_G (en 6 L) (d + 1) true 43 101 [some (xm_r (7, 3, 0)), some (xm_i (3 : Int32)), some (xm_i (6 : Int32)), some (xm_i (3 : Int32))] [xm_r (9, 3, 5), xm_i (3 : Int32), xm_r (12, 3, 0)] ((119, 544), (xm_up (xm_up (xm_up fi (7, 3, 0) 0 (3 : Int32)) (7, 3, 0) 1 (6 : Int32)) (8, 3, 0) 2 (sp_1 (6 : Int32))), fl, (xm_up (xm_up (xm_up (xm_up (xm_up (xm_up (xm_up (xm_up (xm_up (xm_up (xm_up (xm_up (xm_up (xm_up (xm_up (xm_up (xm_up (xm_up (xm_up (xm_up (xm_up (xm_up (xm_up r (7, 3, 0) 4 (some (8, 3, 0))) (9, 3, 0) 0 (some (10, 3, 0))) (7, 3, 0) 5 (some (9, 3, 0))) (7, 3, 0) 6 (some (11, 3, 0))) (9, 3, 6) 0 (some (10, 3, 6))) (11, 3, 0) 0 (some (9, 3, 6))) (9, 3, 7) 0 (some (10, 3, 7))) (11, 3, 0) 1 (some (9, 3, 7))) (9, 3, 8) 0 (some (10, 3, 8))) (11, 3, 0) 2 (some (9, 3, 8))) (9, 3, 9) 0 (some (10, 3, 9))) (11, 3, 0) 3 (some (9, 3, 9))) (9, 3, 10) 0 (some (10, 3, 10))) (11, 3, 0) 4 (some (9, 3, 10))) (9, 3, 11) 0 (some (10, 3, 11))) (11, 3, 0) 5 (some (9, 3, 11))) (7, 3, 0) 7 (some (12, 3, 0))) (9, 3, 2) 0 (some (10, 3, 2))) (12, 3, 0) 0 (some (9, 3, 2))) (9, 3, 3) 0 (some (10, 3, 3))) (12, 3, 0) 1 (some (9, 3, 3))) (9, 3, 4) 0 (some (10, 3, 4))) (12, 3, 0) 2 (some (9, 3, 4)))) R
  refine pg_43_101 rfl ?_
  refine pg_43_102 rfl ?_
  refine pg_43_103 (Nat.le_of_ble_eq_true rfl) (ct_61 (m := 6) (b := (10, 3, 5)) (rfl : (6 : Int32) = nI 6) (by decide) (en_a (by decide +kernel)) (en_k (by decide +kernel)) (en_ok (by decide +kernel))) ?_
  show xm_G (en 6 L) (d + 1) true 43 106 [some (xm_r (7, 3, 0)), some (xm_i (3 : Int32)), some (xm_i (6 : Int32)), some (xm_i (3 : Int32))] [xm_r (9, 3, 5), xm_i (3 : Int32), xm_r (12, 3, 0)] ((120, 550), (xm_up (xm_up (xm_up fi (7, 3, 0) 0 (3 : Int32)) (7, 3, 0) 1 (6 : Int32)) (8, 3, 0) 2 (sp_1 (6 : Int32))), fl, (xm_up (xm_up (xm_up (xm_up (xm_up (xm_up (xm_up (xm_up (xm_up (xm_up (xm_up (xm_up (xm_up (xm_up (xm_up (xm_up (xm_up (xm_up (xm_up (xm_up (xm_up (xm_up (xm_up (xm_up r (7, 3, 0) 4 (some (8, 3, 0))) (9, 3, 0) 0 (some (10, 3, 0))) (7, 3, 0) 5 (some (9, 3, 0))) (7, 3, 0) 6 (some (11, 3, 0))) (9, 3, 6) 0 (some (10, 3, 6))) (11, 3, 0) 0 (some (9, 3, 6))) (9, 3, 7) 0 (some (10, 3, 7))) (11, 3, 0) 1 (some (9, 3, 7))) (9, 3, 8) 0 (some (10, 3, 8))) (11, 3, 0) 2 (some (9, 3, 8))) (9, 3, 9) 0 (some (10, 3, 9))) (11, 3, 0) 3 (some (9, 3, 9))) (9, 3, 10) 0 (some (10, 3, 10))) (11, 3, 0) 4 (some (9, 3, 10))) (9, 3, 11) 0 (some (10, 3, 11))) (11, 3, 0) 5 (some (9, 3, 11))) (7, 3, 0) 7 (some (12, 3, 0))) (9, 3, 2) 0 (some (10, 3, 2))) (12, 3, 0) 0 (some (9, 3, 2))) (9, 3, 3) 0 (some (10, 3, 3))) (12, 3, 0) 1 (some (9, 3, 3))) (9, 3, 4) 0 (some (10, 3, 4))) (12, 3, 0) 2 (some (9, 3, 4))) (9, 3, 5) 0 (some (10, 3, 5)))) R
  refine pg_43_106 (en_ok (t := 4) (s := 0) (by decide +kernel)) (by decide) (by decide) (en_ok (s := 4) (by decide +kernel)) (i := 3) (rfl : (3 : Int32) = nI 3) (by decide) (by decide) ?_
  refine pg_43_107 (y := (4 : Int32)) (lv' := [some (xm_r (7, 3, 0)), some (xm_i (3 : Int32)), some (xm_i (6 : Int32)), some (xm_i (4 : Int32))]) rfl (by decide) rfl ?_
  refine pg_43_110 ?_
  refine pg_43_88 rfl ?_
  refine pg_43_89 ?_
  refine pg_43_90 (fun _ => ?_) (fun hc => absurd (by decide) hc)
  refine pg_43_113 rfl ?_
  refine pg_43_114 (a := (9, 3, 1)) (en_a (by decide +kernel)) (en_k (by decide +kernel)) ?_
  show xm_G (en 6 L) (d + 1) true 43 117 [some (xm_r (7, 3, 0)), some (xm_i (3 : Int32)), some (xm_i (6 : Int32)), some (xm_i (4 : Int32))] [xm_r (9, 3, 1), xm_r (7, 3, 0)] ((121, 552), (xm_up (xm_up (xm_up fi (7, 3, 0) 0 (3 : Int32)) (7, 3, 0) 1 (6 : Int32)) (8, 3, 0) 2 (sp_1 (6 : Int32))), fl, (xm_up (xm_up (xm_up (xm_up (xm_up (xm_up (xm_up (xm_up (xm_up (xm_up (xm_up (xm_up (xm_up (xm_up (xm_up (xm_up (xm_up (xm_up (xm_up (xm_up (xm_up (xm_up (xm_up (xm_up (xm_up r (7, 3, 0) 4 (some (8, 3, 0))) (9, 3, 0) 0 (some (10, 3, 0))) (7, 3, 0) 5 (some (9, 3, 0))) (7, 3, 0) 6 (some (11, 3, 0))) (9, 3, 6) 0 (some (10, 3, 6))) (11, 3, 0) 0 (some (9, 3, 6))) (9, 3, 7) 0 (some (10, 3, 7))) (11, 3, 0) 1 (some (9, 3, 7))) (9, 3, 8) 0 (some (10, 3, 8))) (11, 3, 0) 2 (some (9, 3, 8))) (9, 3, 9) 0 (some (10, 3, 9))) (11, 3, 0) 3 (some (9, 3, 9))) (9, 3, 10) 0 (some (10, 3, 10))) (11, 3, 0) 4 (some (9, 3, 10))) (9, 3, 11) 0 (some (10, 3, 11))) (11, 3, 0) 5 (some (9, 3, 11))) (7, 3, 0) 7 (some (12, 3, 0))) (9, 3, 2) 0 (some (10, 3, 2))) (12, 3, 0) 0 (some (9, 3, 2))) (9, 3, 3) 0 (some (10, 3, 3))) (12, 3, 0) 1 (some (9, 3, 3))) (9, 3, 4) 0 (some (10, 3, 4))) (12, 3, 0) 2 (some (9, 3, 4))) (9, 3, 5) 0 (some (10, 3, 5))) (12, 3, 0) 3 (some (9, 3, 5)))) R
  refine pg_43_117 rfl ?_
  refine pg_43_118 rfl ?_
  refine pg_43_119 (Nat.le_of_ble_eq_true rfl) (ct_61 (m := 6) (b := (10, 3, 1)) (rfl : (6 : Int32) = nI 6) (by decide) (en_a (by decide +kernel)) (en_k (by decide +kernel)) (en_ok (by decide +kernel))) ?_
  show xm_G (en 6 L) (d + 1) true 43 122 [some (xm_r (7, 3, 0)), some (xm_i (3 : Int32)), some (xm_i (6 : Int32)), some (xm_i (4 : Int32))] [xm_r (9, 3, 1), xm_r (7, 3, 0)] ((122, 558), (xm_up (xm_up (xm_up fi (7, 3, 0) 0 (3 : Int32)) (7, 3, 0) 1 (6 : Int32)) (8, 3, 0) 2 (sp_1 (6 : Int32))), fl, (xm_up (xm_up (xm_up (xm_up (xm_up (xm_up (xm_up (xm_up (xm_up (xm_up (xm_up (xm_up (xm_up (xm_up (xm_up (xm_up (xm_up (xm_up (xm_up (xm_up (xm_up (xm_up (xm_up (xm_up (xm_up (xm_up r (7, 3, 0) 4 (some (8, 3, 0))) (9, 3, 0) 0 (some (10, 3, 0))) (7, 3, 0) 5 (some (9, 3, 0))) (7, 3, 0) 6 (some (11, 3, 0))) (9, 3, 6) 0 (some (10, 3, 6))) (11, 3, 0) 0 (some (9, 3, 6))) (9, 3, 7) 0 (some (10, 3, 7))) (11, 3, 0) 1 (some (9, 3, 7))) (9, 3, 8) 0 (some (10, 3, 8))) (11, 3, 0) 2 (some (9, 3, 8))) (9, 3, 9) 0 (some (10, 3, 9))) (11, 3, 0) 3 (some (9, 3, 9))) (9, 3, 10) 0 (some (10, 3, 10))) (11, 3, 0) 4 (some (9, 3, 10))) (9, 3, 11) 0 (some (10, 3, 11))) (11, 3, 0) 5 (some (9, 3, 11))) (7, 3, 0) 7 (some (12, 3, 0))) (9, 3, 2) 0 (some (10, 3, 2))) (12, 3, 0) 0 (some (9, 3, 2))) (9, 3, 3) 0 (some (10, 3, 3))) (12, 3, 0) 1 (some (9, 3, 3))) (9, 3, 4) 0 (some (10, 3, 4))) (12, 3, 0) 2 (some (9, 3, 4))) (9, 3, 5) 0 (some (10, 3, 5))) (12, 3, 0) 3 (some (9, 3, 5))) (9, 3, 1) 0 (some (10, 3, 1)))) R
  refine pg_43_122 (en_ok (by decide +kernel)) ?_
  refine pg_43_125 rfl ?_
  refine pg_43_126 rfl ?_
  refine pg_43_127 (n := 6) (rfl : (6 : Int32) = nI 6) (by decide) (en_a (a := (13, 3, 0)) (by decide +kernel)) (en_k (by decide +kernel)) ?_
  show xm_G (en 6 L) (d + 1) true 43 129 [some (xm_r (7, 3, 0)), some (xm_i (3 : Int32)), some (xm_i (6 : Int32)), some (xm_i (4 : Int32))] [xm_r (13, 3, 0), xm_r (7, 3, 0)] ((123, 564), (xm_up (xm_up (xm_up fi (7, 3, 0) 0 (3 : Int32)) (7, 3, 0) 1 (6 : Int32)) (8, 3, 0) 2 (sp_1 (6 : Int32))), fl, (xm_up (xm_up (xm_up (xm_up (xm_up (xm_up (xm_up (xm_up (xm_up (xm_up (xm_up (xm_up (xm_up (xm_up (xm_up (xm_up (xm_up (xm_up (xm_up (xm_up (xm_up (xm_up (xm_up (xm_up (xm_up (xm_up (xm_up r (7, 3, 0) 4 (some (8, 3, 0))) (9, 3, 0) 0 (some (10, 3, 0))) (7, 3, 0) 5 (some (9, 3, 0))) (7, 3, 0) 6 (some (11, 3, 0))) (9, 3, 6) 0 (some (10, 3, 6))) (11, 3, 0) 0 (some (9, 3, 6))) (9, 3, 7) 0 (some (10, 3, 7))) (11, 3, 0) 1 (some (9, 3, 7))) (9, 3, 8) 0 (some (10, 3, 8))) (11, 3, 0) 2 (some (9, 3, 8))) (9, 3, 9) 0 (some (10, 3, 9))) (11, 3, 0) 3 (some (9, 3, 9))) (9, 3, 10) 0 (some (10, 3, 10))) (11, 3, 0) 4 (some (9, 3, 10))) (9, 3, 11) 0 (some (10, 3, 11))) (11, 3, 0) 5 (some (9, 3, 11))) (7, 3, 0) 7 (some (12, 3, 0))) (9, 3, 2) 0 (some (10, 3, 2))) (12, 3, 0) 0 (some (9, 3, 2))) (9, 3, 3) 0 (some (10, 3, 3))) (12, 3, 0) 1 (some (9, 3, 3))) (9, 3, 4) 0 (some (10, 3, 4))) (12, 3, 0) 2 (some (9, 3, 4))) (9, 3, 5) 0 (some (10, 3, 5))) (12, 3, 0) 3 (some (9, 3, 5))) (9, 3, 1) 0 (some (10, 3, 1))) (7, 3, 0) 8 (some (9, 3, 1)))) R
  refine pg_43_129 (en_ok (by decide +kernel)) ?_
  exact go_eq hR.symm (pg_43_132)
def cf_43_6_4 (fi : FI) : FI := (xm_up (xm_up (xm_up fi (7, 4, 0) 0 (4 : Int32)) (7, 4, 0) 1 (6 : Int32)) (8, 4, 0) 2 (sp_1 (6 : Int32)))
def cr_43_6_4 (r : xm_I → Nat → Option xm_I) : xm_I → Nat → Option xm_I := (xm_up (xm_up (xm_up (xm_up (xm_up (xm_up (xm_up (xm_up (xm_up (xm_up (xm_up (xm_up (xm_up (xm_up (xm_up (xm_up (xm_up (xm_up (xm_up (xm_up (xm_up (xm_up (xm_up (xm_up (xm_up (xm_up (xm_up (xm_up r (7, 4, 0) 4 (some (8, 4, 0))) (9, 4, 0) 0 (some (10, 4, 0))) (7, 4, 0) 5 (some (9, 4, 0))) (7, 4, 0) 6 (some (11, 4, 0))) (9, 4, 6) 0 (some (10, 4, 6))) (11, 4, 0) 0 (some (9, 4, 6))) (9, 4, 7) 0 (some (10, 4, 7))) (11, 4, 0) 1 (some (9, 4, 7))) (9, 4, 8) 0 (some (10, 4, 8))) (11, 4, 0) 2 (some (9, 4, 8))) (9, 4, 9) 0 (some (10, 4, 9))) (11, 4, 0) 3 (some (9, 4, 9))) (9, 4, 10) 0 (some (10, 4, 10))) (11, 4, 0) 4 (some (9, 4, 10))) (9, 4, 11) 0 (some (10, 4, 11))) (11, 4, 0) 5 (some (9, 4, 11))) (7, 4, 0) 7 (some (12, 4, 0))) (9, 4, 2) 0 (some (10, 4, 2))) (12, 4, 0) 0 (some (9, 4, 2))) (9, 4, 3) 0 (some (10, 4, 3))) (12, 4, 0) 1 (some (9, 4, 3))) (9, 4, 4) 0 (some (10, 4, 4))) (12, 4, 0) 2 (some (9, 4, 4))) (9, 4, 5) 0 (some (10, 4, 5))) (12, 4, 0) 3 (some (9, 4, 5))) (9, 4, 1) 0 (some (10, 4, 1))) (7, 4, 0) 8 (some (9, 4, 1))) (7, 4, 0) 9 (some (13, 4, 0)))
set_option maxRecDepth 8000 in
theorem ct_43_6_4 {L : Nat} {fi : FI} {fl : FL} {r : xm_I → Nat → Option xm_I} {d : Nat} : xm_C (en 6 L) (d + 2) true 43 [xm_r (7, 4, 0), xm_i (4 : Int32), xm_i (6 : Int32)] ((124, 577), fi, fl, r) (.inl none, ((152, 693), cf_43_6_4 fi, fl, cr_43_6_4 r)) := by
  suffices key : ∀ (E : xm_E) (R : xm_O), E = en 6 L → ((.inl none, ((152, 693), cf_43_6_4 fi, fl, cr_43_6_4 r)) : xm_O) = R → xm_G (en 6 L) (d + 1) true 43 0 [some (xm_r (7, 4, 0)), some (xm_i (4 : Int32)), some (xm_i (6 : Int32)), none] [] ((124, 577), fi, fl, r) R from go_inr (by decide) (Nat.le_of_ble_eq_true rfl) (key _ _ rfl rfl)
  intro E R hE hR
  refine pg_43_0 rfl ?_
  refine pg_43_1 (Nat.le_of_ble_eq_true rfl) ?_
  refine pg_43_4 rfl ?_
  refine pg_43_5 rfl ?_
  refine pg_43_6 (en_ok (by decide +kernel)) ?_
  refine pg_43_9 rfl ?_
  refine pg_43_10 rfl ?_
  refine pg_43_11 (en_ok (by decide +kernel)) ?_
  refine pg_43_14 rfl ?_
  refine pg_43_15 ?_
  refine pg_43_16 (n := 4) (rfl : (4 : Int32) = nI 4) (by decide) (en_a (a := (8, 4, 0)) (by decide +kernel)) (en_k (by decide +kernel)) ?_
  show xm_G (en 6 L) (d + 1) true 43 18 [some (xm_r (7, 4, 0)), some (xm_i (4 : Int32)), some (xm_i (6 : Int32)), none] [xm_r (8, 4, 0), xm_r (7, 4, 0)] ((125, 581), (xm_up (xm_up fi (7, 4, 0) 0 (4 : Int32)) (7, 4, 0) 1 (6 : Int32)), fl, r) R
  refine pg_43_18 (en_ok (by decide +kernel)) ?_
  refine pg_43_21 rfl ?_
  refine pg_43_22 (en_ok (by decide +kernel)) rfl ?_
  refine pg_43_25 ?_
  refine pg_43_26 rfl ?_
  refine pg_43_27 (Nat.le_of_ble_eq_true rfl) (ct_1 (x := (6 : Int32))) ?_
  refine pg_43_30 (en_ok (s := 4) (by decide +kernel)) (i := 2) (rfl : (2 : Int32) = nI 2) (by omega) (by omega) ?_
  refine pg_43_31 rfl ?_
  refine pg_43_32 (a := (9, 4, 0)) (en_a (by decide +kernel)) (en_k (by decide +kernel)) ?_
  show xm_G (en 6 L) (d + 1) true 43 35 [some (xm_r (7, 4, 0)), some (xm_i (4 : Int32)), some (xm_i (6 : Int32)), none] [xm_r (9, 4, 0), xm_r (7, 4, 0)] ((126, 583), (xm_up (xm_up (xm_up fi (7, 4, 0) 0 (4 : Int32)) (7, 4, 0) 1 (6 : Int32)) (8, 4, 0) 2 (sp_1 (6 : Int32))), fl, (xm_up r (7, 4, 0) 4 (some (8, 4, 0)))) R
  refine pg_43_35 rfl ?_
  refine pg_43_36 rfl ?_
  refine pg_43_37 (Nat.le_of_ble_eq_true rfl) (ct_61 (m := 6) (b := (10, 4, 0)) (rfl : (6 : Int32) = nI 6) (by decide) (en_a (by decide +kernel)) (en_k (by decide +kernel)) (en_ok (by decide +kernel))) ?_
  show xm_G (en 6 L) (d + 1) true 43 40 [some (xm_r (7, 4, 0)), some (xm_i (4 : Int32)), some (xm_i (6 : Int32)), none] [xm_r (9, 4, 0), xm_r (7, 4, 0)] ((127, 589), (xm_up (xm_up (xm_up fi (7, 4, 0) 0 (4 : Int32)) (7, 4, 0) 1 (6 : Int32)) (8, 4, 0) 2 (sp_1 (6 : Int32))), fl, (xm_up (xm_up r (7, 4, 0) 4 (some (8, 4, 0))) (9, 4, 0) 0 (some (10, 4, 0)))) R
  refine pg_43_40 (en_ok (by decide +kernel)) ?_
  refine pg_43_43 rfl ?_
  refine pg_43_44 rfl ?_
  refine pg_43_45 (n := 6) (rfl : (6 : Int32) = nI 6) (by decide) (en_a (a := (11, 4, 0)) (by decide +kernel)) (en_k (by decide +kernel)) ?_
  show xm_G (en 6 L) (d + 1) true 43 48 [some (xm_r (7, 4, 0)), some (xm_i (4 : Int32)), some (xm_i (6 : Int32)), none] [xm_r (11, 4, 0), xm_r (7, 4, 0)] ((128, 595), (xm_up (xm_up (xm_up fi (7, 4, 0) 0 (4 : Int32)) (7, 4, 0) 1 (6 : Int32)) (8, 4, 0) 2 (sp_1 (6 : Int32))), fl, (xm_up (xm_up (xm_up r (7, 4, 0) 4 (some (8, 4, 0))) (9, 4, 0) 0 (some (10, 4, 0))) (7, 4, 0) 5 (some (9, 4, 0)))) R
  refine pg_43_48 (en_ok (by decide +kernel)) ?_
  refine pg_43_51 ?_
  refine pg_43_52 (lv' := [some (xm_r (7, 4, 0)), some (xm_i (4 : Int32)), some (xm_i (6 : Int32)), some (xm_i (0 : Int32))]) rfl ?_
  refine pg_43_53 rfl ?_
  refine pg_43_54 rfl ?_
  refine pg_43_55 (fun hc => absurd hc (by decide)) (fun _ => ?_)
  refine pg_43_58 rfl ?_
  refine pg_43_59 (en_ok (by decide +kernel)) rfl ?_
  refine pg_43_62 rfl ?_
  refine pg_43_63 (a := (9, 4, 6)) (en_a (by decide +kernel)) (en_k (by decide +kernel)) ?_
  show xm_G (en 6 L) (d + 1) true 43 66 [some (xm_r (7, 4, 0)), some (xm_i (4 : Int32)), some (xm_i (6 : Int32)), some (xm_i (0 : Int32))] [xm_r (9, 4, 6), xm_i (0 : Int32), xm_r (11, 4, 0)] ((129, 597), (xm_up (xm_up (xm_up fi (7, 4, 0) 0 (4 : Int32)) (7, 4, 0) 1 (6 : Int32)) (8, 4, 0) 2 (sp_1 (6 : Int32))), fl, (xm_up (xm_up (xm_up (xm_up r (7, 4, 0) 4 (some (8, 4, 0))) (9, 4, 0) 0 (some (10, 4, 0))) (7, 4, 0) 5 (some (9, 4, 0))) (7, 4, 0) 6 (some (11, 4, 0)))) R
  refine pg_43_66 rfl ?_
  refine pg_43_67 rfl ?_
  refine pg_43_68 (Nat.le_of_ble_eq_true rfl) (ct_61 (m := 6) (b := (10, 4, 6)) (rfl : (6 : Int32) = nI 6) (by decide) (en_a (by decide +kernel)) (en_k (by decide +kernel)) (en_ok (by decide +kernel))) ?_
  show xm_G (en 6 L) (d + 1) true 43 71 [some (xm_r (7, 4, 0)), some (xm_i (4 : Int32)), some (xm_i (6 : Int32)), some (xm_i (0 : Int32))] [xm_r (9, 4, 6), xm_i (0 : Int32), xm_r (11, 4, 0)] ((130, 603), (xm_up (xm_up (xm_up fi (7, 4, 0) 0 (4 : Int32)) (7, 4, 0) 1 (6 : Int32)) (8, 4, 0) 2 (sp_1 (6 : Int32))), fl, (xm_up (xm_up (xm_up (xm_up (xm_up r (7, 4, 0) 4 (some (8, 4, 0))) (9, 4, 0) 0 (some (10, 4, 0))) (7, 4, 0) 5 (some (9, 4, 0))) (7, 4, 0) 6 (some (11, 4, 0))) (9, 4, 6) 0 (some (10, 4, 6)))) R
  refine pg_43_71 (en_ok (t := 4) (s := 0) (by decide +kernel)) (by decide) (by decide) (en_ok (s := 6) (by decide +kernel)) (i := 0) (rfl : (0 : Int32) = nI 0) (by decide) (by decide) ?_
  refine pg_43_72 (y := (1 : Int32)) (lv' := [some (xm_r (7, 4, 0)), some (xm_i (4 : Int32)), some (xm_i (6 : Int32)), some (xm_i (1 : Int32))]) rfl (by decide) rfl ?_
  refine pg_43_75 ?_
  refine pg_43_53 rfl ?_
  refine pg_43_54 rfl ?_
  refine pg_43_55 (fun hc => absurd hc (by decide)) (fun _ => ?_)
  refine pg_43_58 rfl ?_
  refine pg_43_59 (en_ok (by decide +kernel)) rfl ?_
  refine pg_43_62 rfl ?_
  refine pg_43_63 (a := (9, 4, 7)) (en_a (by decide +kernel)) (en_k (by decide +kernel)) ?_
  show xm_G (en 6 L) (d + 1) true 43 66 [some (xm_r (7, 4, 0)), some (xm_i (4 : Int32)), some (xm_i (6 : Int32)), some (xm_i (1 : Int32))] [xm_r (9, 4, 7), xm_i (1 : Int32), xm_r (11, 4, 0)] ((131, 605), (xm_up (xm_up (xm_up fi (7, 4, 0) 0 (4 : Int32)) (7, 4, 0) 1 (6 : Int32)) (8, 4, 0) 2 (sp_1 (6 : Int32))), fl, (xm_up (xm_up (xm_up (xm_up (xm_up (xm_up r (7, 4, 0) 4 (some (8, 4, 0))) (9, 4, 0) 0 (some (10, 4, 0))) (7, 4, 0) 5 (some (9, 4, 0))) (7, 4, 0) 6 (some (11, 4, 0))) (9, 4, 6) 0 (some (10, 4, 6))) (11, 4, 0) 0 (some (9, 4, 6)))) R
  refine pg_43_66 rfl ?_
  refine pg_43_67 rfl ?_
  refine pg_43_68 (Nat.le_of_ble_eq_true rfl) (ct_61 (m := 6) (b := (10, 4, 7)) (rfl : (6 : Int32) = nI 6) (by decide) (en_a (by decide +kernel)) (en_k (by decide +kernel)) (en_ok (by decide +kernel))) ?_
  show xm_G (en 6 L) (d + 1) true 43 71 [some (xm_r (7, 4, 0)), some (xm_i (4 : Int32)), some (xm_i (6 : Int32)), some (xm_i (1 : Int32))] [xm_r (9, 4, 7), xm_i (1 : Int32), xm_r (11, 4, 0)] ((132, 611), (xm_up (xm_up (xm_up fi (7, 4, 0) 0 (4 : Int32)) (7, 4, 0) 1 (6 : Int32)) (8, 4, 0) 2 (sp_1 (6 : Int32))), fl, (xm_up (xm_up (xm_up (xm_up (xm_up (xm_up (xm_up r (7, 4, 0) 4 (some (8, 4, 0))) (9, 4, 0) 0 (some (10, 4, 0))) (7, 4, 0) 5 (some (9, 4, 0))) (7, 4, 0) 6 (some (11, 4, 0))) (9, 4, 6) 0 (some (10, 4, 6))) (11, 4, 0) 0 (some (9, 4, 6))) (9, 4, 7) 0 (some (10, 4, 7)))) R
  refine pg_43_71 (en_ok (t := 4) (s := 0) (by decide +kernel)) (by decide) (by decide) (en_ok (s := 6) (by decide +kernel)) (i := 1) (rfl : (1 : Int32) = nI 1) (by decide) (by decide) ?_
  refine pg_43_72 (y := (2 : Int32)) (lv' := [some (xm_r (7, 4, 0)), some (xm_i (4 : Int32)), some (xm_i (6 : Int32)), some (xm_i (2 : Int32))]) rfl (by decide) rfl ?_
  refine pg_43_75 ?_
  refine pg_43_53 rfl ?_
  refine pg_43_54 rfl ?_
  refine pg_43_55 (fun hc => absurd hc (by decide)) (fun _ => ?_)
  refine pg_43_58 rfl ?_
  refine pg_43_59 (en_ok (by decide +kernel)) rfl ?_
  refine pg_43_62 rfl ?_
  refine pg_43_63 (a := (9, 4, 8)) (en_a (by decide +kernel)) (en_k (by decide +kernel)) ?_
  show xm_G (en 6 L) (d + 1) true 43 66 [some (xm_r (7, 4, 0)), some (xm_i (4 : Int32)), some (xm_i (6 : Int32)), some (xm_i (2 : Int32))] [xm_r (9, 4, 8), xm_i (2 : Int32), xm_r (11, 4, 0)] ((133, 613), (xm_up (xm_up (xm_up fi (7, 4, 0) 0 (4 : Int32)) (7, 4, 0) 1 (6 : Int32)) (8, 4, 0) 2 (sp_1 (6 : Int32))), fl, (xm_up (xm_up (xm_up (xm_up (xm_up (xm_up (xm_up (xm_up r (7, 4, 0) 4 (some (8, 4, 0))) (9, 4, 0) 0 (some (10, 4, 0))) (7, 4, 0) 5 (some (9, 4, 0))) (7, 4, 0) 6 (some (11, 4, 0))) (9, 4, 6) 0 (some (10, 4, 6))) (11, 4, 0) 0 (some (9, 4, 6))) (9, 4, 7) 0 (some (10, 4, 7))) (11, 4, 0) 1 (some (9, 4, 7)))) R
  refine pg_43_66 rfl ?_
  refine pg_43_67 rfl ?_
  refine pg_43_68 (Nat.le_of_ble_eq_true rfl) (ct_61 (m := 6) (b := (10, 4, 8)) (rfl : (6 : Int32) = nI 6) (by decide) (en_a (by decide +kernel)) (en_k (by decide +kernel)) (en_ok (by decide +kernel))) ?_
  show xm_G (en 6 L) (d + 1) true 43 71 [some (xm_r (7, 4, 0)), some (xm_i (4 : Int32)), some (xm_i (6 : Int32)), some (xm_i (2 : Int32))] [xm_r (9, 4, 8), xm_i (2 : Int32), xm_r (11, 4, 0)] ((134, 619), (xm_up (xm_up (xm_up fi (7, 4, 0) 0 (4 : Int32)) (7, 4, 0) 1 (6 : Int32)) (8, 4, 0) 2 (sp_1 (6 : Int32))), fl, (xm_up (xm_up (xm_up (xm_up (xm_up (xm_up (xm_up (xm_up (xm_up r (7, 4, 0) 4 (some (8, 4, 0))) (9, 4, 0) 0 (some (10, 4, 0))) (7, 4, 0) 5 (some (9, 4, 0))) (7, 4, 0) 6 (some (11, 4, 0))) (9, 4, 6) 0 (some (10, 4, 6))) (11, 4, 0) 0 (some (9, 4, 6))) (9, 4, 7) 0 (some (10, 4, 7))) (11, 4, 0) 1 (some (9, 4, 7))) (9, 4, 8) 0 (some (10, 4, 8)))) R
  refine pg_43_71 (en_ok (t := 4) (s := 0) (by decide +kernel)) (by decide) (by decide) (en_ok (s := 6) (by decide +kernel)) (i := 2) (rfl : (2 : Int32) = nI 2) (by decide) (by decide) ?_
  refine pg_43_72 (y := (3 : Int32)) (lv' := [some (xm_r (7, 4, 0)), some (xm_i (4 : Int32)), some (xm_i (6 : Int32)), some (xm_i (3 : Int32))]) rfl (by decide) rfl ?_
  refine pg_43_75 ?_
  refine pg_43_53 rfl ?_
  refine pg_43_54 rfl ?_
  refine pg_43_55 (fun hc => absurd hc (by decide)) (fun _ => ?_)
  refine pg_43_58 rfl ?_
  refine pg_43_59 (en_ok (by decide +kernel)) rfl ?_
  refine pg_43_62 rfl ?_
  refine pg_43_63 (a := (9, 4, 9)) (en_a (by decide +kernel)) (en_k (by decide +kernel)) ?_
  show xm_G (en 6 L) (d + 1) true 43 66 [some (xm_r (7, 4, 0)), some (xm_i (4 : Int32)), some (xm_i (6 : Int32)), some (xm_i (3 : Int32))] [xm_r (9, 4, 9), xm_i (3 : Int32), xm_r (11, 4, 0)] ((135, 621), (xm_up (xm_up (xm_up fi (7, 4, 0) 0 (4 : Int32)) (7, 4, 0) 1 (6 : Int32)) (8, 4, 0) 2 (sp_1 (6 : Int32))), fl, (xm_up (xm_up (xm_up (xm_up (xm_up (xm_up (xm_up (xm_up (xm_up (xm_up r (7, 4, 0) 4 (some (8, 4, 0))) (9, 4, 0) 0 (some (10, 4, 0))) (7, 4, 0) 5 (some (9, 4, 0))) (7, 4, 0) 6 (some (11, 4, 0))) (9, 4, 6) 0 (some (10, 4, 6))) (11, 4, 0) 0 (some (9, 4, 6))) (9, 4, 7) 0 (some (10, 4, 7))) (11, 4, 0) 1 (some (9, 4, 7))) (9, 4, 8) 0 (some (10, 4, 8))) (11, 4, 0) 2 (some (9, 4, 8)))) R
  refine pg_43_66 rfl ?_
  refine pg_43_67 rfl ?_
  refine pg_43_68 (Nat.le_of_ble_eq_true rfl) (ct_61 (m := 6) (b := (10, 4, 9)) (rfl : (6 : Int32) = nI 6) (by decide) (en_a (by decide +kernel)) (en_k (by decide +kernel)) (en_ok (by decide +kernel))) ?_
  show xm_G (en 6 L) (d + 1) true 43 71 [some (xm_r (7, 4, 0)), some (xm_i (4 : Int32)), some (xm_i (6 : Int32)), some (xm_i (3 : Int32))] [xm_r (9, 4, 9), xm_i (3 : Int32), xm_r (11, 4, 0)] ((136, 627), (xm_up (xm_up (xm_up fi (7, 4, 0) 0 (4 : Int32)) (7, 4, 0) 1 (6 : Int32)) (8, 4, 0) 2 (sp_1 (6 : Int32))), fl, (xm_up (xm_up (xm_up (xm_up (xm_up (xm_up (xm_up (xm_up (xm_up (xm_up (xm_up r (7, 4, 0) 4 (some (8, 4, 0))) (9, 4, 0) 0 (some (10, 4, 0))) (7, 4, 0) 5 (some (9, 4, 0))) (7, 4, 0) 6 (some (11, 4, 0))) (9, 4, 6) 0 (some (10, 4, 6))) (11, 4, 0) 0 (some (9, 4, 6))) (9, 4, 7) 0 (some (10, 4, 7))) (11, 4, 0) 1 (some (9, 4, 7))) (9, 4, 8) 0 (some (10, 4, 8))) (11, 4, 0) 2 (some (9, 4, 8))) (9, 4, 9) 0 (some (10, 4, 9)))) R
  refine pg_43_71 (en_ok (t := 4) (s := 0) (by decide +kernel)) (by decide) (by decide) (en_ok (s := 6) (by decide +kernel)) (i := 3) (rfl : (3 : Int32) = nI 3) (by decide) (by decide) ?_
  refine pg_43_72 (y := (4 : Int32)) (lv' := [some (xm_r (7, 4, 0)), some (xm_i (4 : Int32)), some (xm_i (6 : Int32)), some (xm_i (4 : Int32))]) rfl (by decide) rfl ?_
  refine pg_43_75 ?_
  refine pg_43_53 rfl ?_
  refine pg_43_54 rfl ?_
  refine pg_43_55 (fun hc => absurd hc (by decide)) (fun _ => ?_)
  refine pg_43_58 rfl ?_
  refine pg_43_59 (en_ok (by decide +kernel)) rfl ?_
  refine pg_43_62 rfl ?_
  refine pg_43_63 (a := (9, 4, 10)) (en_a (by decide +kernel)) (en_k (by decide +kernel)) ?_
  show xm_G (en 6 L) (d + 1) true 43 66 [some (xm_r (7, 4, 0)), some (xm_i (4 : Int32)), some (xm_i (6 : Int32)), some (xm_i (4 : Int32))] [xm_r (9, 4, 10), xm_i (4 : Int32), xm_r (11, 4, 0)] ((137, 629), (xm_up (xm_up (xm_up fi (7, 4, 0) 0 (4 : Int32)) (7, 4, 0) 1 (6 : Int32)) (8, 4, 0) 2 (sp_1 (6 : Int32))), fl, (xm_up (xm_up (xm_up (xm_up (xm_up (xm_up (xm_up (xm_up (xm_up (xm_up (xm_up (xm_up r (7, 4, 0) 4 (some (8, 4, 0))) (9, 4, 0) 0 (some (10, 4, 0))) (7, 4, 0) 5 (some (9, 4, 0))) (7, 4, 0) 6 (some (11, 4, 0))) (9, 4, 6) 0 (some (10, 4, 6))) (11, 4, 0) 0 (some (9, 4, 6))) (9, 4, 7) 0 (some (10, 4, 7))) (11, 4, 0) 1 (some (9, 4, 7))) (9, 4, 8) 0 (some (10, 4, 8))) (11, 4, 0) 2 (some (9, 4, 8))) (9, 4, 9) 0 (some (10, 4, 9))) (11, 4, 0) 3 (some (9, 4, 9)))) R
  refine pg_43_66 rfl ?_
  refine pg_43_67 rfl ?_
  refine pg_43_68 (Nat.le_of_ble_eq_true rfl) (ct_61 (m := 6) (b := (10, 4, 10)) (rfl : (6 : Int32) = nI 6) (by decide) (en_a (by decide +kernel)) (en_k (by decide +kernel)) (en_ok (by decide +kernel))) ?_
  show xm_G (en 6 L) (d + 1) true 43 71 [some (xm_r (7, 4, 0)), some (xm_i (4 : Int32)), some (xm_i (6 : Int32)), some (xm_i (4 : Int32))] [xm_r (9, 4, 10), xm_i (4 : Int32), xm_r (11, 4, 0)] ((138, 635), (xm_up (xm_up (xm_up fi (7, 4, 0) 0 (4 : Int32)) (7, 4, 0) 1 (6 : Int32)) (8, 4, 0) 2 (sp_1 (6 : Int32))), fl, (xm_up (xm_up (xm_up (xm_up (xm_up (xm_up (xm_up (xm_up (xm_up (xm_up (xm_up (xm_up (xm_up r (7, 4, 0) 4 (some (8, 4, 0))) (9, 4, 0) 0 (some (10, 4, 0))) (7, 4, 0) 5 (some (9, 4, 0))) (7, 4, 0) 6 (some (11, 4, 0))) (9, 4, 6) 0 (some (10, 4, 6))) (11, 4, 0) 0 (some (9, 4, 6))) (9, 4, 7) 0 (some (10, 4, 7))) (11, 4, 0) 1 (some (9, 4, 7))) (9, 4, 8) 0 (some (10, 4, 8))) (11, 4, 0) 2 (some (9, 4, 8))) (9, 4, 9) 0 (some (10, 4, 9))) (11, 4, 0) 3 (some (9, 4, 9))) (9, 4, 10) 0 (some (10, 4, 10)))) R
  refine pg_43_71 (en_ok (t := 4) (s := 0) (by decide +kernel)) (by decide) (by decide) (en_ok (s := 6) (by decide +kernel)) (i := 4) (rfl : (4 : Int32) = nI 4) (by decide) (by decide) ?_
  refine pg_43_72 (y := (5 : Int32)) (lv' := [some (xm_r (7, 4, 0)), some (xm_i (4 : Int32)), some (xm_i (6 : Int32)), some (xm_i (5 : Int32))]) rfl (by decide) rfl ?_
  refine pg_43_75 ?_
  refine pg_43_53 rfl ?_
  refine pg_43_54 rfl ?_
  refine pg_43_55 (fun hc => absurd hc (by decide)) (fun _ => ?_)
  refine pg_43_58 rfl ?_
  refine pg_43_59 (en_ok (by decide +kernel)) rfl ?_
  refine pg_43_62 rfl ?_
  refine pg_43_63 (a := (9, 4, 11)) (en_a (by decide +kernel)) (en_k (by decide +kernel)) ?_
  show xm_G (en 6 L) (d + 1) true 43 66 [some (xm_r (7, 4, 0)), some (xm_i (4 : Int32)), some (xm_i (6 : Int32)), some (xm_i (5 : Int32))] [xm_r (9, 4, 11), xm_i (5 : Int32), xm_r (11, 4, 0)] ((139, 637), (xm_up (xm_up (xm_up fi (7, 4, 0) 0 (4 : Int32)) (7, 4, 0) 1 (6 : Int32)) (8, 4, 0) 2 (sp_1 (6 : Int32))), fl, (xm_up (xm_up (xm_up (xm_up (xm_up (xm_up (xm_up (xm_up (xm_up (xm_up (xm_up (xm_up (xm_up (xm_up r (7, 4, 0) 4 (some (8, 4, 0))) (9, 4, 0) 0 (some (10, 4, 0))) (7, 4, 0) 5 (some (9, 4, 0))) (7, 4, 0) 6 (some (11, 4, 0))) (9, 4, 6) 0 (some (10, 4, 6))) (11, 4, 0) 0 (some (9, 4, 6))) (9, 4, 7) 0 (some (10, 4, 7))) (11, 4, 0) 1 (some (9, 4, 7))) (9, 4, 8) 0 (some (10, 4, 8))) (11, 4, 0) 2 (some (9, 4, 8))) (9, 4, 9) 0 (some (10, 4, 9))) (11, 4, 0) 3 (some (9, 4, 9))) (9, 4, 10) 0 (some (10, 4, 10))) (11, 4, 0) 4 (some (9, 4, 10)))) R
  refine pg_43_66 rfl ?_
  refine pg_43_67 rfl ?_
  refine pg_43_68 (Nat.le_of_ble_eq_true rfl) (ct_61 (m := 6) (b := (10, 4, 11)) (rfl : (6 : Int32) = nI 6) (by decide) (en_a (by decide +kernel)) (en_k (by decide +kernel)) (en_ok (by decide +kernel))) ?_
  show xm_G (en 6 L) (d + 1) true 43 71 [some (xm_r (7, 4, 0)), some (xm_i (4 : Int32)), some (xm_i (6 : Int32)), some (xm_i (5 : Int32))] [xm_r (9, 4, 11), xm_i (5 : Int32), xm_r (11, 4, 0)] ((140, 643), (xm_up (xm_up (xm_up fi (7, 4, 0) 0 (4 : Int32)) (7, 4, 0) 1 (6 : Int32)) (8, 4, 0) 2 (sp_1 (6 : Int32))), fl, (xm_up (xm_up (xm_up (xm_up (xm_up (xm_up (xm_up (xm_up (xm_up (xm_up (xm_up (xm_up (xm_up (xm_up (xm_up r (7, 4, 0) 4 (some (8, 4, 0))) (9, 4, 0) 0 (some (10, 4, 0))) (7, 4, 0) 5 (some (9, 4, 0))) (7, 4, 0) 6 (some (11, 4, 0))) (9, 4, 6) 0 (some (10, 4, 6))) (11, 4, 0) 0 (some (9, 4, 6))) (9, 4, 7) 0 (some (10, 4, 7))) (11, 4, 0) 1 (some (9, 4, 7))) (9, 4, 8) 0 (some (10, 4, 8))) (11, 4, 0) 2 (some (9, 4, 8))) (9, 4, 9) 0 (some (10, 4, 9))) (11, 4, 0) 3 (some (9, 4, 9))) (9, 4, 10) 0 (some (10, 4, 10))) (11, 4, 0) 4 (some (9, 4, 10))) (9, 4, 11) 0 (some (10, 4, 11)))) R
  refine pg_43_71 (en_ok (t := 4) (s := 0) (by decide +kernel)) (by decide) (by decide) (en_ok (s := 6) (by decide +kernel)) (i := 5) (rfl : (5 : Int32) = nI 5) (by decide) (by decide) ?_
  refine pg_43_72 (y := (6 : Int32)) (lv' := [some (xm_r (7, 4, 0)), some (xm_i (4 : Int32)), some (xm_i (6 : Int32)), some (xm_i (6 : Int32))]) rfl (by decide) rfl ?_
  refine pg_43_75 ?_
  refine pg_43_53 rfl ?_
  refine pg_43_54 rfl ?_
  refine pg_43_55 (fun _ => ?_) (fun hc => absurd (by decide) hc)
  refine pg_43_78 rfl ?_
  refine pg_43_79 ?_
  refine pg_43_80 (n := 4) (rfl : (4 : Int32) = nI 4) (by decide) (en_a (a := (12, 4, 0)) (by decide +kernel)) (en_k (by decide +kernel)) ?_
  show xm_G (en 6 L) (d + 1) true 43 83 [some (xm_r (7, 4, 0)), some (xm_i (4 : Int32)), some (xm_i (6 : Int32)), some (xm_i (6 : Int32))] [xm_r (12, 4, 0), xm_r (7, 4, 0)] ((141, 647), (xm_up (xm_up (xm_up fi (7, 4, 0) 0 (4 : Int32)) (7, 4, 0) 1 (6 : Int32)) (8, 4, 0) 2 (sp_1 (6 : Int32))), fl, (xm_up (xm_up (xm_up (xm_up (xm_up (xm_up (xm_up (xm_up (xm_up (xm_up (xm_up (xm_up (xm_up (xm_up (xm_up (xm_up r (7, 4, 0) 4 (some (8, 4, 0))) (9, 4, 0) 0 (some (10, 4, 0))) (7, 4, 0) 5 (some (9, 4, 0))) (7, 4, 0) 6 (some (11, 4, 0))) (9, 4, 6) 0 (some (10, 4, 6))) (11, 4, 0) 0 (some (9, 4, 6))) (9, 4, 7) 0 (some (10, 4, 7))) (11, 4, 0) 1 (some (9, 4, 7))) (9, 4, 8) 0 (some (10, 4, 8))) (11, 4, 0) 2 (some (9, 4, 8))) (9, 4, 9) 0 (some (10, 4, 9))) (11, 4, 0) 3 (some (9, 4, 9))) (9, 4, 10) 0 (some (10, 4, 10))) (11, 4, 0) 4 (some (9, 4, 10))) (9, 4, 11) 0 (some (10, 4, 11))) (11, 4, 0) 5 (some (9, 4, 11)))) R
  refine pg_43_83 (en_ok (by decide +kernel)) ?_
  refine pg_43_86 ?_
  refine pg_43_87 (lv' := [some (xm_r (7, 4, 0)), some (xm_i (4 : Int32)), some (xm_i (6 : Int32)), some (xm_i (0 : Int32))]) rfl ?_
  refine pg_43_88 rfl ?_
  refine pg_43_89 ?_
  refine pg_43_90 (fun hc => absurd hc (by decide)) (fun _ => ?_)
  refine pg_43_93 rfl ?_
  refine pg_43_94 (en_ok (by decide +kernel)) rfl ?_
  refine pg_43_97 rfl ?_
  refine pg_43_98 (a := (9, 4, 2)) (en_a (by decide +kernel)) (en_k (by decide +kernel)) ?_
  show xm_G (en 6 L) (d + 1) true 43 101 [some (xm_r (7, 4, 0)), some (xm_i (4 : Int32)), some (xm_i (6 : Int32)), some (xm_i (0 : Int32))] [xm_r (9, 4, 2), xm_i (0 : Int32), xm_r (12, 4, 0)] ((142, 649), (xm_up (xm_up (xm_up fi (7, 4, 0) 0 (4 : Int32)) (7, 4, 0) 1 (6 : Int32)) (8, 4, 0) 2 (sp_1 (6 : Int32))), fl, (xm_up (xm_up (xm_up (xm_up (xm_up (xm_up (xm_up (xm_up (xm_up (xm_up (xm_up (xm_up (xm_up (xm_up (xm_up (xm_up (xm_up r (7, 4, 0) 4 (some (8, 4, 0))) (9, 4, 0) 0 (some (10, 4, 0))) (7, 4, 0) 5 (some (9, 4, 0))) (7, 4, 0) 6 (some (11, 4, 0))) (9, 4, 6) 0 (some (10, 4, 6))) (11, 4, 0) 0 (some (9, 4, 6))) (9, 4, 7) 0 (some (10, 4, 7))) (11, 4, 0) 1 (some (9, 4, 7))) (9, 4, 8) 0 (some (10, 4, 8))) (11, 4, 0) 2 (some (9, 4, 8))) (9, 4, 9) 0 (some (10, 4, 9))) (11, 4, 0) 3 (some (9, 4, 9))) (9, 4, 10) 0 (some (10, 4, 10))) (11, 4, 0) 4 (some (9, 4, 10))) (9, 4, 11) 0 (some (10, 4, 11))) (11, 4, 0) 5 (some (9, 4, 11))) (7, 4, 0) 7 (some (12, 4, 0)))) R
  refine pg_43_101 rfl ?_
  refine pg_43_102 rfl ?_
  refine pg_43_103 (Nat.le_of_ble_eq_true rfl) (ct_61 (m := 6) (b := (10, 4, 2)) (rfl : (6 : Int32) = nI 6) (by decide) (en_a (by decide +kernel)) (en_k (by decide +kernel)) (en_ok (by decide +kernel))) ?_
  show xm_G (en 6 L) (d + 1) true 43 106 [some (xm_r (7, 4, 0)), some (xm_i (4 : Int32)), some (xm_i (6 : Int32)), some (xm_i (0 : Int32))] [xm_r (9, 4, 2), xm_i (0 : Int32), xm_r (12, 4, 0)] ((143, 655), (xm_up (xm_up (xm_up fi (7, 4, 0) 0 (4 : Int32)) (7, 4, 0) 1 (6 : Int32)) (8, 4, 0) 2 (sp_1 (6 : Int32))), fl, (xm_up (xm_up (xm_up (xm_up (xm_up (xm_up (xm_up (xm_up (xm_up (xm_up (xm_up (xm_up (xm_up (xm_up (xm_up (xm_up (xm_up (xm_up r (7, 4, 0) 4 (some (8, 4, 0))) (9, 4, 0) 0 (some (10, 4, 0))) (7, 4, 0) 5 (some (9, 4, 0))) (7, 4, 0) 6 (some (11, 4, 0))) (9, 4, 6) 0 (some (10, 4, 6))) (11, 4, 0) 0 (some (9, 4, 6))) (9, 4, 7) 0 (some (10, 4, 7))) (11, 4, 0) 1 (some (9, 4, 7))) (9, 4, 8) 0 (some (10, 4, 8))) (11, 4, 0) 2 (some (9, 4, 8))) (9, 4, 9) 0 (some (10, 4, 9))) (11, 4, 0) 3 (some (9, 4, 9))) (9, 4, 10) 0 (some (10, 4, 10))) (11, 4, 0) 4 (some (9, 4, 10))) (9, 4, 11) 0 (some (10, 4, 11))) (11, 4, 0) 5 (some (9, 4, 11))) (7, 4, 0) 7 (some (12, 4, 0))) (9, 4, 2) 0 (some (10, 4, 2)))) R
  refine pg_43_106 (en_ok (t := 4) (s := 0) (by decide +kernel)) (by decide) (by decide) (en_ok (s := 4) (by decide +kernel)) (i := 0) (rfl : (0 : Int32) = nI 0) (by decide) (by decide) ?_
  refine pg_43_107 (y := (1 : Int32)) (lv' := [some (xm_r (7, 4, 0)), some (xm_i (4 : Int32)), some (xm_i (6 : Int32)), some (xm_i (1 : Int32))]) rfl (by decide) rfl ?_
  refine pg_43_110 ?_
  refine pg_43_88 rfl ?_
  refine pg_43_89 ?_
  refine pg_43_90 (fun hc => absurd hc (by decide)) (fun _ => ?_)
  refine pg_43_93 rfl ?_
  refine pg_43_94 (en_ok (by decide +kernel)) rfl ?_
  refine pg_43_97 rfl ?_
  refine pg_43_98 (a := (9, 4, 3)) (en_a (by decide +kernel)) (en_k (by decide +kernel)) ?_
  show xm_G (en 6 L) (d + 1) true 43 101 [some (xm_r (7, 4, 0)), some (xm_i (4 : Int32)), some (xm_i (6 : Int32)), some (xm_i (1 : Int32))] [xm_r (9, 4, 3), xm_i (1 : Int32), xm_r (12, 4, 0)] ((144, 657), (xm_up (xm_up (xm_up fi (7, 4, 0) 0 (4 : Int32)) (7, 4, 0) 1 (6 : Int32)) (8, 4, 0) 2 (sp_1 (6 : Int32))), fl, (xm_up (xm_up (xm_up (xm_up (xm_up (xm_up (xm_up (xm_up (xm_up (xm_up (xm_up (xm_up (xm_up (xm_up (xm_up (xm_up (xm_up (xm_up (xm_up r (7, 4, 0) 4 (some (8, 4, 0))) (9, 4, 0) 0 (some (10, 4, 0))) (7, 4, 0) 5 (some (9, 4, 0))) (7, 4, 0) 6 (some (11, 4, 0))) (9, 4, 6) 0 (some (10, 4, 6))) (11, 4, 0) 0 (some (9, 4, 6))) (9, 4, 7) 0 (some (10, 4, 7))) (11, 4, 0) 1 (some (9, 4, 7))) (9, 4, 8) 0 (some (10, 4, 8))) (11, 4, 0) 2 (some (9, 4, 8))) (9, 4, 9) 0 (some (10, 4, 9))) (11, 4, 0) 3 (some (9, 4, 9))) (9, 4, 10) 0 (some (10, 4, 10))) (11, 4, 0) 4 (some (9, 4, 10))) (9, 4, 11) 0 (some (10, 4, 11))) (11, 4, 0) 5 (some (9, 4, 11))) (7, 4, 0) 7 (some (12, 4, 0))) (9, 4, 2) 0 (some (10, 4, 2))) (12, 4, 0) 0 (some (9, 4, 2)))) R
  refine pg_43_101 rfl ?_
  refine pg_43_102 rfl ?_
  refine pg_43_103 (Nat.le_of_ble_eq_true rfl) (ct_61 (m := 6) (b := (10, 4, 3)) (rfl : (6 : Int32) = nI 6) (by decide) (en_a (by decide +kernel)) (en_k (by decide +kernel)) (en_ok (by decide +kernel))) ?_
  show xm_G (en 6 L) (d + 1) true 43 106 [some (xm_r (7, 4, 0)), some (xm_i (4 : Int32)), some (xm_i (6 : Int32)), some (xm_i (1 : Int32))] [xm_r (9, 4, 3), xm_i (1 : Int32), xm_r (12, 4, 0)] ((145, 663), (xm_up (xm_up (xm_up fi (7, 4, 0) 0 (4 : Int32)) (7, 4, 0) 1 (6 : Int32)) (8, 4, 0) 2 (sp_1 (6 : Int32))), fl, (xm_up (xm_up (xm_up (xm_up (xm_up (xm_up (xm_up (xm_up (xm_up (xm_up (xm_up (xm_up (xm_up (xm_up (xm_up (xm_up (xm_up (xm_up (xm_up (xm_up r (7, 4, 0) 4 (some (8, 4, 0))) (9, 4, 0) 0 (some (10, 4, 0))) (7, 4, 0) 5 (some (9, 4, 0))) (7, 4, 0) 6 (some (11, 4, 0))) (9, 4, 6) 0 (some (10, 4, 6))) (11, 4, 0) 0 (some (9, 4, 6))) (9, 4, 7) 0 (some (10, 4, 7))) (11, 4, 0) 1 (some (9, 4, 7))) (9, 4, 8) 0 (some (10, 4, 8))) (11, 4, 0) 2 (some (9, 4, 8))) (9, 4, 9) 0 (some (10, 4, 9))) (11, 4, 0) 3 (some (9, 4, 9))) (9, 4, 10) 0 (some (10, 4, 10))) (11, 4, 0) 4 (some (9, 4, 10))) (9, 4, 11) 0 (some (10, 4, 11))) (11, 4, 0) 5 (some (9, 4, 11))) (7, 4, 0) 7 (some (12, 4, 0))) (9, 4, 2) 0 (some (10, 4, 2))) (12, 4, 0) 0 (some (9, 4, 2))) (9, 4, 3) 0 (some (10, 4, 3)))) R
  refine pg_43_106 (en_ok (t := 4) (s := 0) (by decide +kernel)) (by decide) (by decide) (en_ok (s := 4) (by decide +kernel)) (i := 1) (rfl : (1 : Int32) = nI 1) (by decide) (by decide) ?_
  refine pg_43_107 (y := (2 : Int32)) (lv' := [some (xm_r (7, 4, 0)), some (xm_i (4 : Int32)), some (xm_i (6 : Int32)), some (xm_i (2 : Int32))]) rfl (by decide) rfl ?_
  refine pg_43_110 ?_
  refine pg_43_88 rfl ?_
  refine pg_43_89 ?_
  refine pg_43_90 (fun hc => absurd hc (by decide)) (fun _ => ?_)
  refine pg_43_93 rfl ?_
  refine pg_43_94 (en_ok (by decide +kernel)) rfl ?_
  refine pg_43_97 rfl ?_
  refine pg_43_98 (a := (9, 4, 4)) (en_a (by decide +kernel)) (en_k (by decide +kernel)) ?_
  show xm_G (en 6 L) (d + 1) true 43 101 [some (xm_r (7, 4, 0)), some (xm_i (4 : Int32)), some (xm_i (6 : Int32)), some (xm_i (2 : Int32))] [xm_r (9, 4, 4), xm_i (2 : Int32), xm_r (12, 4, 0)] ((146, 665), (xm_up (xm_up (xm_up fi (7, 4, 0) 0 (4 : Int32)) (7, 4, 0) 1 (6 : Int32)) (8, 4, 0) 2 (sp_1 (6 : Int32))), fl, (xm_up (xm_up (xm_up (xm_up (xm_up (xm_up (xm_up (xm_up (xm_up (xm_up (xm_up (xm_up (xm_up (xm_up (xm_up (xm_up (xm_up (xm_up (xm_up (xm_up (xm_up r (7, 4, 0) 4 (some (8, 4, 0))) (9, 4, 0) 0 (some (10, 4, 0))) (7, 4, 0) 5 (some (9, 4, 0))) (7, 4, 0) 6 (some (11, 4, 0))) (9, 4, 6) 0 (some (10, 4, 6))) (11, 4, 0) 0 (some (9, 4, 6))) (9, 4, 7) 0 (some (10, 4, 7))) (11, 4, 0) 1 (some (9, 4, 7))) (9, 4, 8) 0 (some (10, 4, 8))) (11, 4, 0) 2 (some (9, 4, 8))) (9, 4, 9) 0 (some (10, 4, 9))) (11, 4, 0) 3 (some (9, 4, 9))) (9, 4, 10) 0 (some (10, 4, 10))) (11, 4, 0) 4 (some (9, 4, 10))) (9, 4, 11) 0 (some (10, 4, 11))) (11, 4, 0) 5 (some (9, 4, 11))) (7, 4, 0) 7 (some (12, 4, 0))) (9, 4, 2) 0 (some (10, 4, 2))) (12, 4, 0) 0 (some (9, 4, 2))) (9, 4, 3) 0 (some (10, 4, 3))) (12, 4, 0) 1 (some (9, 4, 3)))) R
  refine pg_43_101 rfl ?_
  refine pg_43_102 rfl ?_
  refine pg_43_103 (Nat.le_of_ble_eq_true rfl) (ct_61 (m := 6) (b := (10, 4, 4)) (rfl : (6 : Int32) = nI 6) (by decide) (en_a (by decide +kernel)) (en_k (by decide +kernel)) (en_ok (by decide +kernel))) ?_
  show xm_G (en 6 L) (d + 1) true 43 106 [some (xm_r (7, 4, 0)), some (xm_i (4 : Int32)), some (xm_i (6 : Int32)), some (xm_i (2 : Int32))] [xm_r (9, 4, 4), xm_i (2 : Int32), xm_r (12, 4, 0)] ((147, 671), (xm_up (xm_up (xm_up fi (7, 4, 0) 0 (4 : Int32)) (7, 4, 0) 1 (6 : Int32)) (8, 4, 0) 2 (sp_1 (6 : Int32))), fl, (xm_up (xm_up (xm_up (xm_up (xm_up (xm_up (xm_up (xm_up (xm_up (xm_up (xm_up (xm_up (xm_up (xm_up (xm_up (xm_up (xm_up (xm_up (xm_up (xm_up (xm_up (xm_up r (7, 4, 0) 4 (some (8, 4, 0))) (9, 4, 0) 0 (some (10, 4, 0))) (7, 4, 0) 5 (some (9, 4, 0))) (7, 4, 0) 6 (some (11, 4, 0))) (9, 4, 6) 0 (some (10, 4, 6))) (11, 4, 0) 0 (some (9, 4, 6))) (9, 4, 7) 0 (some (10, 4, 7))) (11, 4, 0) 1 (some (9, 4, 7))) (9, 4, 8) 0 (some (10, 4, 8))) (11, 4, 0) 2 (some (9, 4, 8))) (9, 4, 9) 0 (some (10, 4, 9))) (11, 4, 0) 3 (some (9, 4, 9))) (9, 4, 10) 0 (some (10, 4, 10))) (11, 4, 0) 4 (some (9, 4, 10))) (9, 4, 11) 0 (some (10, 4, 11))) (11, 4, 0) 5 (some (9, 4, 11))) (7, 4, 0) 7 (some (12, 4, 0))) (9, 4, 2) 0 (some (10, 4, 2))) (12, 4, 0) 0 (some (9, 4, 2))) (9, 4, 3) 0 (some (10, 4, 3))) (12, 4, 0) 1 (some (9, 4, 3))) (9, 4, 4) 0 (some (10, 4, 4)))) R
  refine pg_43_106 (en_ok (t := 4) (s := 0) (by decide +kernel)) (by decide) (by decide) (en_ok (s := 4) (by decide +kernel)) (i := 2) (rfl : (2 : Int32) = nI 2) (by decide) (by decide) ?_
  refine pg_43_107 (y := (3 : Int32)) (lv' := [some (xm_r (7, 4, 0)), some (xm_i (4 : Int32)), some (xm_i (6 : Int32)), some (xm_i (3 : Int32))]) rfl (by decide) rfl ?_
  refine pg_43_110 ?_
  refine pg_43_88 rfl ?_
  refine pg_43_89 ?_
  refine pg_43_90 (fun hc => absurd hc (by decide)) (fun _ => ?_)
  refine pg_43_93 rfl ?_
  refine pg_43_94 (en_ok (by decide +kernel)) rfl ?_
  refine pg_43_97 rfl ?_
  refine pg_43_98 (a := (9, 4, 5)) (en_a (by decide +kernel)) (en_k (by decide +kernel)) ?_
  show xm_G (en 6 L) (d + 1) true 43 101 [some (xm_r (7, 4, 0)), some (xm_i (4 : Int32)), some (xm_i (6 : Int32)), some (xm_i (3 : Int32))] [xm_r (9, 4, 5), xm_i (3 : Int32), xm_r (12, 4, 0)] ((148, 673), (xm_up (xm_up (xm_up fi (7, 4, 0) 0 (4 : Int32)) (7, 4, 0) 1 (6 : Int32)) (8, 4, 0) 2 (sp_1 (6 : Int32))), fl, (xm_up (xm_up (xm_up (xm_up (xm_up (xm_up (xm_up (xm_up (xm_up (xm_up (xm_up (xm_up (xm_up (xm_up (xm_up (xm_up (xm_up (xm_up (xm_up (xm_up (xm_up (xm_up (xm_up r (7, 4, 0) 4 (some (8, 4, 0))) (9, 4, 0) 0 (some (10, 4, 0))) (7, 4, 0) 5 (some (9, 4, 0))) (7, 4, 0) 6 (some (11, 4, 0))) (9, 4, 6) 0 (some (10, 4, 6))) (11, 4, 0) 0 (some (9, 4, 6))) (9, 4, 7) 0 (some (10, 4, 7))) (11, 4, 0) 1 (some (9, 4, 7))) (9, 4, 8) 0 (some (10, 4, 8))) (11, 4, 0) 2 (some (9, 4, 8))) (9, 4, 9) 0 (some (10, 4, 9))) (11, 4, 0) 3 (some (9, 4, 9))) (9, 4, 10) 0 (some (10, 4, 10))) (11, 4, 0) 4 (some (9, 4, 10))) (9, 4, 11) 0 (some (10, 4, 11))) (11, 4, 0) 5 (some (9, 4, 11))) (7, 4, 0) 7 (some (12, 4, 0))) (9, 4, 2) 0 (some (10, 4, 2))) (12, 4, 0) 0 (some (9, 4, 2))) (9, 4, 3) 0 (some (10, 4, 3))) (12, 4, 0) 1 (some (9, 4, 3))) (9, 4, 4) 0 (some (10, 4, 4))) (12, 4, 0) 2 (some (9, 4, 4)))) R
  refine pg_43_101 rfl ?_
  refine pg_43_102 rfl ?_
  refine pg_43_103 (Nat.le_of_ble_eq_true rfl) (ct_61 (m := 6) (b := (10, 4, 5)) (rfl : (6 : Int32) = nI 6) (by decide) (en_a (by decide +kernel)) (en_k (by decide +kernel)) (en_ok (by decide +kernel))) ?_
  show xm_G (en 6 L) (d + 1) true 43 106 [some (xm_r (7, 4, 0)), some (xm_i (4 : Int32)), some (xm_i (6 : Int32)), some (xm_i (3 : Int32))] [xm_r (9, 4, 5), xm_i (3 : Int32), xm_r (12, 4, 0)] ((149, 679), (xm_up (xm_up (xm_up fi (7, 4, 0) 0 (4 : Int32)) (7, 4, 0) 1 (6 : Int32)) (8, 4, 0) 2 (sp_1 (6 : Int32))), fl, (xm_up (xm_up (xm_up (xm_up (xm_up (xm_up (xm_up (xm_up (xm_up (xm_up (xm_up (xm_up (xm_up (xm_up (xm_up (xm_up (xm_up (xm_up (xm_up (xm_up (xm_up (xm_up (xm_up (xm_up r (7, 4, 0) 4 (some (8, 4, 0))) (9, 4, 0) 0 (some (10, 4, 0))) (7, 4, 0) 5 (some (9, 4, 0))) (7, 4, 0) 6 (some (11, 4, 0))) (9, 4, 6) 0 (some (10, 4, 6))) (11, 4, 0) 0 (some (9, 4, 6))) (9, 4, 7) 0 (some (10, 4, 7))) (11, 4, 0) 1 (some (9, 4, 7))) (9, 4, 8) 0 (some (10, 4, 8))) (11, 4, 0) 2 (some (9, 4, 8))) (9, 4, 9) 0 (some (10, 4, 9))) (11, 4, 0) 3 (some (9, 4, 9))) (9, 4, 10) 0 (some (10, 4, 10))) (11, 4, 0) 4 (some (9, 4, 10))) (9, 4, 11) 0 (some (10, 4, 11))) (11, 4, 0) 5 (some (9, 4, 11))) (7, 4, 0) 7 (some (12, 4, 0))) (9, 4, 2) 0 (some (10, 4, 2))) (12, 4, 0) 0 (some (9, 4, 2))) (9, 4, 3) 0 (some (10, 4, 3))) (12, 4, 0) 1 (some (9, 4, 3))) (9, 4, 4) 0 (some (10, 4, 4))) (12, 4, 0) 2 (some (9, 4, 4))) (9, 4, 5) 0 (some (10, 4, 5)))) R
  refine pg_43_106 (en_ok (t := 4) (s := 0) (by decide +kernel)) (by decide) (by decide) (en_ok (s := 4) (by decide +kernel)) (i := 3) (rfl : (3 : Int32) = nI 3) (by decide) (by decide) ?_
  refine pg_43_107 (y := (4 : Int32)) (lv' := [some (xm_r (7, 4, 0)), some (xm_i (4 : Int32)), some (xm_i (6 : Int32)), some (xm_i (4 : Int32))]) rfl (by decide) rfl ?_
  refine pg_43_110 ?_
  refine pg_43_88 rfl ?_
  refine pg_43_89 ?_
  refine pg_43_90 (fun _ => ?_) (fun hc => absurd (by decide) hc)
  refine pg_43_113 rfl ?_
  refine pg_43_114 (a := (9, 4, 1)) (en_a (by decide +kernel)) (en_k (by decide +kernel)) ?_
  show xm_G (en 6 L) (d + 1) true 43 117 [some (xm_r (7, 4, 0)), some (xm_i (4 : Int32)), some (xm_i (6 : Int32)), some (xm_i (4 : Int32))] [xm_r (9, 4, 1), xm_r (7, 4, 0)] ((150, 681), (xm_up (xm_up (xm_up fi (7, 4, 0) 0 (4 : Int32)) (7, 4, 0) 1 (6 : Int32)) (8, 4, 0) 2 (sp_1 (6 : Int32))), fl, (xm_up (xm_up (xm_up (xm_up (xm_up (xm_up (xm_up (xm_up (xm_up (xm_up (xm_up (xm_up (xm_up (xm_up (xm_up (xm_up (xm_up (xm_up (xm_up (xm_up (xm_up (xm_up (xm_up (xm_up (xm_up r (7, 4, 0) 4 (some (8, 4, 0))) (9, 4, 0) 0 (some (10, 4, 0))) (7, 4, 0) 5 (some (9, 4, 0))) (7, 4, 0) 6 (some (11, 4, 0))) (9, 4, 6) 0 (some (10, 4, 6))) (11, 4, 0) 0 (some (9, 4, 6))) (9, 4, 7) 0 (some (10, 4, 7))) (11, 4, 0) 1 (some (9, 4, 7))) (9, 4, 8) 0 (some (10, 4, 8))) (11, 4, 0) 2 (some (9, 4, 8))) (9, 4, 9) 0 (some (10, 4, 9))) (11, 4, 0) 3 (some (9, 4, 9))) (9, 4, 10) 0 (some (10, 4, 10))) (11, 4, 0) 4 (some (9, 4, 10))) (9, 4, 11) 0 (some (10, 4, 11))) (11, 4, 0) 5 (some (9, 4, 11))) (7, 4, 0) 7 (some (12, 4, 0))) (9, 4, 2) 0 (some (10, 4, 2))) (12, 4, 0) 0 (some (9, 4, 2))) (9, 4, 3) 0 (some (10, 4, 3))) (12, 4, 0) 1 (some (9, 4, 3))) (9, 4, 4) 0 (some (10, 4, 4))) (12, 4, 0) 2 (some (9, 4, 4))) (9, 4, 5) 0 (some (10, 4, 5))) (12, 4, 0) 3 (some (9, 4, 5)))) R
  refine pg_43_117 rfl ?_
  refine pg_43_118 rfl ?_
  refine pg_43_119 (Nat.le_of_ble_eq_true rfl) (ct_61 (m := 6) (b := (10, 4, 1)) (rfl : (6 : Int32) = nI 6) (by decide) (en_a (by decide +kernel)) (en_k (by decide +kernel)) (en_ok (by decide +kernel))) ?_
  show xm_G (en 6 L) (d + 1) true 43 122 [some (xm_r (7, 4, 0)), some (xm_i (4 : Int32)), some (xm_i (6 : Int32)), some (xm_i (4 : Int32))] [xm_r (9, 4, 1), xm_r (7, 4, 0)] ((151, 687), (xm_up (xm_up (xm_up fi (7, 4, 0) 0 (4 : Int32)) (7, 4, 0) 1 (6 : Int32)) (8, 4, 0) 2 (sp_1 (6 : Int32))), fl, (xm_up (xm_up (xm_up (xm_up (xm_up (xm_up (xm_up (xm_up (xm_up (xm_up (xm_up (xm_up (xm_up (xm_up (xm_up (xm_up (xm_up (xm_up (xm_up (xm_up (xm_up (xm_up (xm_up (xm_up (xm_up (xm_up r (7, 4, 0) 4 (some (8, 4, 0))) (9, 4, 0) 0 (some (10, 4, 0))) (7, 4, 0) 5 (some (9, 4, 0))) (7, 4, 0) 6 (some (11, 4, 0))) (9, 4, 6) 0 (some (10, 4, 6))) (11, 4, 0) 0 (some (9, 4, 6))) (9, 4, 7) 0 (some (10, 4, 7))) (11, 4, 0) 1 (some (9, 4, 7))) (9, 4, 8) 0 (some (10, 4, 8))) (11, 4, 0) 2 (some (9, 4, 8))) (9, 4, 9) 0 (some (10, 4, 9))) (11, 4, 0) 3 (some (9, 4, 9))) (9, 4, 10) 0 (some (10, 4, 10))) (11, 4, 0) 4 (some (9, 4, 10))) (9, 4, 11) 0 (some (10, 4, 11))) (11, 4, 0) 5 (some (9, 4, 11))) (7, 4, 0) 7 (some (12, 4, 0))) (9, 4, 2) 0 (some (10, 4, 2))) (12, 4, 0) 0 (some (9, 4, 2))) (9, 4, 3) 0 (some (10, 4, 3))) (12, 4, 0) 1 (some (9, 4, 3))) (9, 4, 4) 0 (some (10, 4, 4))) (12, 4, 0) 2 (some (9, 4, 4))) (9, 4, 5) 0 (some (10, 4, 5))) (12, 4, 0) 3 (some (9, 4, 5))) (9, 4, 1) 0 (some (10, 4, 1)))) R
  refine pg_43_122 (en_ok (by decide +kernel)) ?_
  refine pg_43_125 rfl ?_
  refine pg_43_126 rfl ?_
  refine pg_43_127 (n := 6) (rfl : (6 : Int32) = nI 6) (by decide) (en_a (a := (13, 4, 0)) (by decide +kernel)) (en_k (by decide +kernel)) ?_
  show xm_G (en 6 L) (d + 1) true 43 129 [some (xm_r (7, 4, 0)), some (xm_i (4 : Int32)), some (xm_i (6 : Int32)), some (xm_i (4 : Int32))] [xm_r (13, 4, 0), xm_r (7, 4, 0)] ((152, 693), (xm_up (xm_up (xm_up fi (7, 4, 0) 0 (4 : Int32)) (7, 4, 0) 1 (6 : Int32)) (8, 4, 0) 2 (sp_1 (6 : Int32))), fl, (xm_up (xm_up (xm_up (xm_up (xm_up (xm_up (xm_up (xm_up (xm_up (xm_up (xm_up (xm_up (xm_up (xm_up (xm_up (xm_up (xm_up (xm_up (xm_up (xm_up (xm_up (xm_up (xm_up (xm_up (xm_up (xm_up (xm_up r (7, 4, 0) 4 (some (8, 4, 0))) (9, 4, 0) 0 (some (10, 4, 0))) (7, 4, 0) 5 (some (9, 4, 0))) (7, 4, 0) 6 (some (11, 4, 0))) (9, 4, 6) 0 (some (10, 4, 6))) (11, 4, 0) 0 (some (9, 4, 6))) (9, 4, 7) 0 (some (10, 4, 7))) (11, 4, 0) 1 (some (9, 4, 7))) (9, 4, 8) 0 (some (10, 4, 8))) (11, 4, 0) 2 (some (9, 4, 8))) (9, 4, 9) 0 (some (10, 4, 9))) (11, 4, 0) 3 (some (9, 4, 9))) (9, 4, 10) 0 (some (10, 4, 10))) (11, 4, 0) 4 (some (9, 4, 10))) (9, 4, 11) 0 (some (10, 4, 11))) (11, 4, 0) 5 (some (9, 4, 11))) (7, 4, 0) 7 (some (12, 4, 0))) (9, 4, 2) 0 (some (10, 4, 2))) (12, 4, 0) 0 (some (9, 4, 2))) (9, 4, 3) 0 (some (10, 4, 3))) (12, 4, 0) 1 (some (9, 4, 3))) (9, 4, 4) 0 (some (10, 4, 4))) (12, 4, 0) 2 (some (9, 4, 4))) (9, 4, 5) 0 (some (10, 4, 5))) (12, 4, 0) 3 (some (9, 4, 5))) (9, 4, 1) 0 (some (10, 4, 1))) (7, 4, 0) 8 (some (9, 4, 1)))) R
  refine pg_43_129 (en_ok (by decide +kernel)) ?_
  exact go_eq hR.symm (pg_43_132)
def cf_43_6_5 (fi : FI) : FI := (xm_up (xm_up (xm_up fi (7, 5, 0) 0 (5 : Int32)) (7, 5, 0) 1 (6 : Int32)) (8, 5, 0) 2 (sp_1 (6 : Int32)))
def cr_43_6_5 (r : xm_I → Nat → Option xm_I) : xm_I → Nat → Option xm_I := (xm_up (xm_up (xm_up (xm_up (xm_up (xm_up (xm_up (xm_up (xm_up (xm_up (xm_up (xm_up (xm_up (xm_up (xm_up (xm_up (xm_up (xm_up (xm_up (xm_up (xm_up (xm_up (xm_up (xm_up (xm_up (xm_up (xm_up (xm_up r (7, 5, 0) 4 (some (8, 5, 0))) (9, 5, 0) 0 (some (10, 5, 0))) (7, 5, 0) 5 (some (9, 5, 0))) (7, 5, 0) 6 (some (11, 5, 0))) (9, 5, 6) 0 (some (10, 5, 6))) (11, 5, 0) 0 (some (9, 5, 6))) (9, 5, 7) 0 (some (10, 5, 7))) (11, 5, 0) 1 (some (9, 5, 7))) (9, 5, 8) 0 (some (10, 5, 8))) (11, 5, 0) 2 (some (9, 5, 8))) (9, 5, 9) 0 (some (10, 5, 9))) (11, 5, 0) 3 (some (9, 5, 9))) (9, 5, 10) 0 (some (10, 5, 10))) (11, 5, 0) 4 (some (9, 5, 10))) (9, 5, 11) 0 (some (10, 5, 11))) (11, 5, 0) 5 (some (9, 5, 11))) (7, 5, 0) 7 (some (12, 5, 0))) (9, 5, 2) 0 (some (10, 5, 2))) (12, 5, 0) 0 (some (9, 5, 2))) (9, 5, 3) 0 (some (10, 5, 3))) (12, 5, 0) 1 (some (9, 5, 3))) (9, 5, 4) 0 (some (10, 5, 4))) (12, 5, 0) 2 (some (9, 5, 4))) (9, 5, 5) 0 (some (10, 5, 5))) (12, 5, 0) 3 (some (9, 5, 5))) (9, 5, 1) 0 (some (10, 5, 1))) (7, 5, 0) 8 (some (9, 5, 1))) (7, 5, 0) 9 (some (13, 5, 0)))
set_option maxRecDepth 8000 in
theorem ct_43_6_5 {L : Nat} {fi : FI} {fl : FL} {r : xm_I → Nat → Option xm_I} {d : Nat} : xm_C (en 6 L) (d + 2) true 43 [xm_r (7, 5, 0), xm_i (5 : Int32), xm_i (6 : Int32)] ((153, 706), fi, fl, r) (.inl none, ((181, 822), cf_43_6_5 fi, fl, cr_43_6_5 r)) := by
  suffices key : ∀ (E : xm_E) (R : xm_O), E = en 6 L → ((.inl none, ((181, 822), cf_43_6_5 fi, fl, cr_43_6_5 r)) : xm_O) = R → xm_G (en 6 L) (d + 1) true 43 0 [some (xm_r (7, 5, 0)), some (xm_i (5 : Int32)), some (xm_i (6 : Int32)), none] [] ((153, 706), fi, fl, r) R from go_inr (by decide) (Nat.le_of_ble_eq_true rfl) (key _ _ rfl rfl)
  intro E R hE hR
  refine pg_43_0 rfl ?_
  refine pg_43_1 (Nat.le_of_ble_eq_true rfl) ?_
  refine pg_43_4 rfl ?_
  refine pg_43_5 rfl ?_
  refine pg_43_6 (en_ok (by decide +kernel)) ?_
  refine pg_43_9 rfl ?_
  refine pg_43_10 rfl ?_
  refine pg_43_11 (en_ok (by decide +kernel)) ?_
  refine pg_43_14 rfl ?_
  refine pg_43_15 ?_
  refine pg_43_16 (n := 4) (rfl : (4 : Int32) = nI 4) (by decide) (en_a (a := (8, 5, 0)) (by decide +kernel)) (en_k (by decide +kernel)) ?_
  show xm_G (en 6 L) (d + 1) true 43 18 [some (xm_r (7, 5, 0)), some (xm_i (5 : Int32)), some (xm_i (6 : Int32)), none] [xm_r (8, 5, 0), xm_r (7, 5, 0)] ((154, 710), (xm_up (xm_up fi (7, 5, 0) 0 (5 : Int32)) (7, 5, 0) 1 (6 : Int32)), fl, r) R
  refine pg_43_18 (en_ok (by decide +kernel)) ?_
  refine pg_43_21 rfl ?_
  refine pg_43_22 (en_ok (by decide +kernel)) rfl ?_
  refine pg_43_25 ?_
  refine pg_43_26 rfl ?_
  refine pg_43_27 (Nat.le_of_ble_eq_true rfl) (ct_1 (x := (6 : Int32))) ?_
  refine pg_43_30 (en_ok (s := 4) (by decide +kernel)) (i := 2) (rfl : (2 : Int32) = nI 2) (by omega) (by omega) ?_
  refine pg_43_31 rfl ?_
  refine pg_43_32 (a := (9, 5, 0)) (en_a (by decide +kernel)) (en_k (by decide +kernel)) ?_
  show xm_G (en 6 L) (d + 1) true 43 35 [some (xm_r (7, 5, 0)), some (xm_i (5 : Int32)), some (xm_i (6 : Int32)), none] [xm_r (9, 5, 0), xm_r (7, 5, 0)] ((155, 712), (xm_up (xm_up (xm_up fi (7, 5, 0) 0 (5 : Int32)) (7, 5, 0) 1 (6 : Int32)) (8, 5, 0) 2 (sp_1 (6 : Int32))), fl, (xm_up r (7, 5, 0) 4 (some (8, 5, 0)))) R
  refine pg_43_35 rfl ?_
  refine pg_43_36 rfl ?_
  refine pg_43_37 (Nat.le_of_ble_eq_true rfl) (ct_61 (m := 6) (b := (10, 5, 0)) (rfl : (6 : Int32) = nI 6) (by decide) (en_a (by decide +kernel)) (en_k (by decide +kernel)) (en_ok (by decide +kernel))) ?_
  show xm_G (en 6 L) (d + 1) true 43 40 [some (xm_r (7, 5, 0)), some (xm_i (5 : Int32)), some (xm_i (6 : Int32)), none] [xm_r (9, 5, 0), xm_r (7, 5, 0)] ((156, 718), (xm_up (xm_up (xm_up fi (7, 5, 0) 0 (5 : Int32)) (7, 5, 0) 1 (6 : Int32)) (8, 5, 0) 2 (sp_1 (6 : Int32))), fl, (xm_up (xm_up r (7, 5, 0) 4 (some (8, 5, 0))) (9, 5, 0) 0 (some (10, 5, 0)))) R
  refine pg_43_40 (en_ok (by decide +kernel)) ?_
  refine pg_43_43 rfl ?_
  refine pg_43_44 rfl ?_
  refine pg_43_45 (n := 6) (rfl : (6 : Int32) = nI 6) (by decide) (en_a (a := (11, 5, 0)) (by decide +kernel)) (en_k (by decide +kernel)) ?_
  show xm_G (en 6 L) (d + 1) true 43 48 [some (xm_r (7, 5, 0)), some (xm_i (5 : Int32)), some (xm_i (6 : Int32)), none] [xm_r (11, 5, 0), xm_r (7, 5, 0)] ((157, 724), (xm_up (xm_up (xm_up fi (7, 5, 0) 0 (5 : Int32)) (7, 5, 0) 1 (6 : Int32)) (8, 5, 0) 2 (sp_1 (6 : Int32))), fl, (xm_up (xm_up (xm_up r (7, 5, 0) 4 (some (8, 5, 0))) (9, 5, 0) 0 (some (10, 5, 0))) (7, 5, 0) 5 (some (9, 5, 0)))) R
  refine pg_43_48 (en_ok (by decide +kernel)) ?_
  refine pg_43_51 ?_
  refine pg_43_52 (lv' := [some (xm_r (7, 5, 0)), some (xm_i (5 : Int32)), some (xm_i (6 : Int32)), some (xm_i (0 : Int32))]) rfl ?_
  refine pg_43_53 rfl ?_
  refine pg_43_54 rfl ?_
  refine pg_43_55 (fun hc => absurd hc (by decide)) (fun _ => ?_)
  refine pg_43_58 rfl ?_
  refine pg_43_59 (en_ok (by decide +kernel)) rfl ?_
  refine pg_43_62 rfl ?_
  refine pg_43_63 (a := (9, 5, 6)) (en_a (by decide +kernel)) (en_k (by decide +kernel)) ?_
  show xm_G (en 6 L) (d + 1) true 43 66 [some (xm_r (7, 5, 0)), some (xm_i (5 : Int32)), some (xm_i (6 : Int32)), some (xm_i (0 : Int32))] [xm_r (9, 5, 6), xm_i (0 : Int32), xm_r (11, 5, 0)] ((158, 726), (xm_up (xm_up (xm_up fi (7, 5, 0) 0 (5 : Int32)) (7, 5, 0) 1 (6 : Int32)) (8, 5, 0) 2 (sp_1 (6 : Int32))), fl, (xm_up (xm_up (xm_up (xm_up r (7, 5, 0) 4 (some (8, 5, 0))) (9, 5, 0) 0 (some (10, 5, 0))) (7, 5, 0) 5 (some (9, 5, 0))) (7, 5, 0) 6 (some (11, 5, 0)))) R
  refine pg_43_66 rfl ?_
  refine pg_43_67 rfl ?_
  refine pg_43_68 (Nat.le_of_ble_eq_true rfl) (ct_61 (m := 6) (b := (10, 5, 6)) (rfl : (6 : Int32) = nI 6) (by decide) (en_a (by decide +kernel)) (en_k (by decide +kernel)) (en_ok (by decide +kernel))) ?_
  show xm_G (en 6 L) (d + 1) true 43 71 [some (xm_r (7, 5, 0)), some (xm_i (5 : Int32)), some (xm_i (6 : Int32)), some (xm_i (0 : Int32))] [xm_r (9, 5, 6), xm_i (0 : Int32), xm_r (11, 5, 0)] ((159, 732), (xm_up (xm_up (xm_up fi (7, 5, 0) 0 (5 : Int32)) (7, 5, 0) 1 (6 : Int32)) (8, 5, 0) 2 (sp_1 (6 : Int32))), fl, (xm_up (xm_up (xm_up (xm_up (xm_up r (7, 5, 0) 4 (some (8, 5, 0))) (9, 5, 0) 0 (some (10, 5, 0))) (7, 5, 0) 5 (some (9, 5, 0))) (7, 5, 0) 6 (some (11, 5, 0))) (9, 5, 6) 0 (some (10, 5, 6)))) R
  refine pg_43_71 (en_ok (t := 4) (s := 0) (by decide +kernel)) (by decide) (by decide) (en_ok (s := 6) (by decide +kernel)) (i := 0) (rfl : (0 : Int32) = nI 0) (by decide) (by decide) ?_
  refine pg_43_72 (y := (1 : Int32)) (lv' := [some (xm_r (7, 5, 0)), some (xm_i (5 : Int32)), some (xm_i (6 : Int32)), some (xm_i (1 : Int32))]) rfl (by decide) rfl ?_
  refine pg_43_75 ?_
  refine pg_43_53 rfl ?_
  refine pg_43_54 rfl ?_
  refine pg_43_55 (fun hc => absurd hc (by decide)) (fun _ => ?_)
  refine pg_43_58 rfl ?_
  refine pg_43_59 (en_ok (by decide +kernel)) rfl ?_
  refine pg_43_62 rfl ?_
  refine pg_43_63 (a := (9, 5, 7)) (en_a (by decide +kernel)) (en_k (by decide +kernel)) ?_
  show xm_G (en 6 L) (d + 1) true 43 66 [some (xm_r (7, 5, 0)), some (xm_i (5 : Int32)), some (xm_i (6 : Int32)), some (xm_i (1 : Int32))] [xm_r (9, 5, 7), xm_i (1 : Int32), xm_r (11, 5, 0)] ((160, 734), (xm_up (xm_up (xm_up fi (7, 5, 0) 0 (5 : Int32)) (7, 5, 0) 1 (6 : Int32)) (8, 5, 0) 2 (sp_1 (6 : Int32))), fl, (xm_up (xm_up (xm_up (xm_up (xm_up (xm_up r (7, 5, 0) 4 (some (8, 5, 0))) (9, 5, 0) 0 (some (10, 5, 0))) (7, 5, 0) 5 (some (9, 5, 0))) (7, 5, 0) 6 (some (11, 5, 0))) (9, 5, 6) 0 (some (10, 5, 6))) (11, 5, 0) 0 (some (9, 5, 6)))) R
  refine pg_43_66 rfl ?_
  refine pg_43_67 rfl ?_
  refine pg_43_68 (Nat.le_of_ble_eq_true rfl) (ct_61 (m := 6) (b := (10, 5, 7)) (rfl : (6 : Int32) = nI 6) (by decide) (en_a (by decide +kernel)) (en_k (by decide +kernel)) (en_ok (by decide +kernel))) ?_
  show xm_G (en 6 L) (d + 1) true 43 71 [some (xm_r (7, 5, 0)), some (xm_i (5 : Int32)), some (xm_i (6 : Int32)), some (xm_i (1 : Int32))] [xm_r (9, 5, 7), xm_i (1 : Int32), xm_r (11, 5, 0)] ((161, 740), (xm_up (xm_up (xm_up fi (7, 5, 0) 0 (5 : Int32)) (7, 5, 0) 1 (6 : Int32)) (8, 5, 0) 2 (sp_1 (6 : Int32))), fl, (xm_up (xm_up (xm_up (xm_up (xm_up (xm_up (xm_up r (7, 5, 0) 4 (some (8, 5, 0))) (9, 5, 0) 0 (some (10, 5, 0))) (7, 5, 0) 5 (some (9, 5, 0))) (7, 5, 0) 6 (some (11, 5, 0))) (9, 5, 6) 0 (some (10, 5, 6))) (11, 5, 0) 0 (some (9, 5, 6))) (9, 5, 7) 0 (some (10, 5, 7)))) R
  refine pg_43_71 (en_ok (t := 4) (s := 0) (by decide +kernel)) (by decide) (by decide) (en_ok (s := 6) (by decide +kernel)) (i := 1) (rfl : (1 : Int32) = nI 1) (by decide) (by decide) ?_
  refine pg_43_72 (y := (2 : Int32)) (lv' := [some (xm_r (7, 5, 0)), some (xm_i (5 : Int32)), some (xm_i (6 : Int32)), some (xm_i (2 : Int32))]) rfl (by decide) rfl ?_
  refine pg_43_75 ?_
  refine pg_43_53 rfl ?_
  refine pg_43_54 rfl ?_
  refine pg_43_55 (fun hc => absurd hc (by decide)) (fun _ => ?_)
  refine pg_43_58 rfl ?_
  refine pg_43_59 (en_ok (by decide +kernel)) rfl ?_
  refine pg_43_62 rfl ?_
  refine pg_43_63 (a := (9, 5, 8)) (en_a (by decide +kernel)) (en_k (by decide +kernel)) ?_
  show xm_G (en 6 L) (d + 1) true 43 66 [some (xm_r (7, 5, 0)), some (xm_i (5 : Int32)), some (xm_i (6 : Int32)), some (xm_i (2 : Int32))] [xm_r (9, 5, 8), xm_i (2 : Int32), xm_r (11, 5, 0)] ((162, 742), (xm_up (xm_up (xm_up fi (7, 5, 0) 0 (5 : Int32)) (7, 5, 0) 1 (6 : Int32)) (8, 5, 0) 2 (sp_1 (6 : Int32))), fl, (xm_up (xm_up (xm_up (xm_up (xm_up (xm_up (xm_up (xm_up r (7, 5, 0) 4 (some (8, 5, 0))) (9, 5, 0) 0 (some (10, 5, 0))) (7, 5, 0) 5 (some (9, 5, 0))) (7, 5, 0) 6 (some (11, 5, 0))) (9, 5, 6) 0 (some (10, 5, 6))) (11, 5, 0) 0 (some (9, 5, 6))) (9, 5, 7) 0 (some (10, 5, 7))) (11, 5, 0) 1 (some (9, 5, 7)))) R
  refine pg_43_66 rfl ?_
  refine pg_43_67 rfl ?_
  refine pg_43_68 (Nat.le_of_ble_eq_true rfl) (ct_61 (m := 6) (b := (10, 5, 8)) (rfl : (6 : Int32) = nI 6) (by decide) (en_a (by decide +kernel)) (en_k (by decide +kernel)) (en_ok (by decide +kernel))) ?_
  show xm_G (en 6 L) (d + 1) true 43 71 [some (xm_r (7, 5, 0)), some (xm_i (5 : Int32)), some (xm_i (6 : Int32)), some (xm_i (2 : Int32))] [xm_r (9, 5, 8), xm_i (2 : Int32), xm_r (11, 5, 0)] ((163, 748), (xm_up (xm_up (xm_up fi (7, 5, 0) 0 (5 : Int32)) (7, 5, 0) 1 (6 : Int32)) (8, 5, 0) 2 (sp_1 (6 : Int32))), fl, (xm_up (xm_up (xm_up (xm_up (xm_up (xm_up (xm_up (xm_up (xm_up r (7, 5, 0) 4 (some (8, 5, 0))) (9, 5, 0) 0 (some (10, 5, 0))) (7, 5, 0) 5 (some (9, 5, 0))) (7, 5, 0) 6 (some (11, 5, 0))) (9, 5, 6) 0 (some (10, 5, 6))) (11, 5, 0) 0 (some (9, 5, 6))) (9, 5, 7) 0 (some (10, 5, 7))) (11, 5, 0) 1 (some (9, 5, 7))) (9, 5, 8) 0 (some (10, 5, 8)))) R
  refine pg_43_71 (en_ok (t := 4) (s := 0) (by decide +kernel)) (by decide) (by decide) (en_ok (s := 6) (by decide +kernel)) (i := 2) (rfl : (2 : Int32) = nI 2) (by decide) (by decide) ?_
  refine pg_43_72 (y := (3 : Int32)) (lv' := [some (xm_r (7, 5, 0)), some (xm_i (5 : Int32)), some (xm_i (6 : Int32)), some (xm_i (3 : Int32))]) rfl (by decide) rfl ?_
  refine pg_43_75 ?_
  refine pg_43_53 rfl ?_
  refine pg_43_54 rfl ?_
  refine pg_43_55 (fun hc => absurd hc (by decide)) (fun _ => ?_)
  refine pg_43_58 rfl ?_
  refine pg_43_59 (en_ok (by decide +kernel)) rfl ?_
  refine pg_43_62 rfl ?_
  refine pg_43_63 (a := (9, 5, 9)) (en_a (by decide +kernel)) (en_k (by decide +kernel)) ?_
  show xm_G (en 6 L) (d + 1) true 43 66 [some (xm_r (7, 5, 0)), some (xm_i (5 : Int32)), some (xm_i (6 : Int32)), some (xm_i (3 : Int32))] [xm_r (9, 5, 9), xm_i (3 : Int32), xm_r (11, 5, 0)] ((164, 750), (xm_up (xm_up (xm_up fi (7, 5, 0) 0 (5 : Int32)) (7, 5, 0) 1 (6 : Int32)) (8, 5, 0) 2 (sp_1 (6 : Int32))), fl, (xm_up (xm_up (xm_up (xm_up (xm_up (xm_up (xm_up (xm_up (xm_up (xm_up r (7, 5, 0) 4 (some (8, 5, 0))) (9, 5, 0) 0 (some (10, 5, 0))) (7, 5, 0) 5 (some (9, 5, 0))) (7, 5, 0) 6 (some (11, 5, 0))) (9, 5, 6) 0 (some (10, 5, 6))) (11, 5, 0) 0 (some (9, 5, 6))) (9, 5, 7) 0 (some (10, 5, 7))) (11, 5, 0) 1 (some (9, 5, 7))) (9, 5, 8) 0 (some (10, 5, 8))) (11, 5, 0) 2 (some (9, 5, 8)))) R
  refine pg_43_66 rfl ?_
  refine pg_43_67 rfl ?_
  refine pg_43_68 (Nat.le_of_ble_eq_true rfl) (ct_61 (m := 6) (b := (10, 5, 9)) (rfl : (6 : Int32) = nI 6) (by decide) (en_a (by decide +kernel)) (en_k (by decide +kernel)) (en_ok (by decide +kernel))) ?_
  show xm_G (en 6 L) (d + 1) true 43 71 [some (xm_r (7, 5, 0)), some (xm_i (5 : Int32)), some (xm_i (6 : Int32)), some (xm_i (3 : Int32))] [xm_r (9, 5, 9), xm_i (3 : Int32), xm_r (11, 5, 0)] ((165, 756), (xm_up (xm_up (xm_up fi (7, 5, 0) 0 (5 : Int32)) (7, 5, 0) 1 (6 : Int32)) (8, 5, 0) 2 (sp_1 (6 : Int32))), fl, (xm_up (xm_up (xm_up (xm_up (xm_up (xm_up (xm_up (xm_up (xm_up (xm_up (xm_up r (7, 5, 0) 4 (some (8, 5, 0))) (9, 5, 0) 0 (some (10, 5, 0))) (7, 5, 0) 5 (some (9, 5, 0))) (7, 5, 0) 6 (some (11, 5, 0))) (9, 5, 6) 0 (some (10, 5, 6))) (11, 5, 0) 0 (some (9, 5, 6))) (9, 5, 7) 0 (some (10, 5, 7))) (11, 5, 0) 1 (some (9, 5, 7))) (9, 5, 8) 0 (some (10, 5, 8))) (11, 5, 0) 2 (some (9, 5, 8))) (9, 5, 9) 0 (some (10, 5, 9)))) R
  refine pg_43_71 (en_ok (t := 4) (s := 0) (by decide +kernel)) (by decide) (by decide) (en_ok (s := 6) (by decide +kernel)) (i := 3) (rfl : (3 : Int32) = nI 3) (by decide) (by decide) ?_
  refine pg_43_72 (y := (4 : Int32)) (lv' := [some (xm_r (7, 5, 0)), some (xm_i (5 : Int32)), some (xm_i (6 : Int32)), some (xm_i (4 : Int32))]) rfl (by decide) rfl ?_
  refine pg_43_75 ?_
  refine pg_43_53 rfl ?_
  refine pg_43_54 rfl ?_
  refine pg_43_55 (fun hc => absurd hc (by decide)) (fun _ => ?_)
  refine pg_43_58 rfl ?_
  refine pg_43_59 (en_ok (by decide +kernel)) rfl ?_
  refine pg_43_62 rfl ?_
  refine pg_43_63 (a := (9, 5, 10)) (en_a (by decide +kernel)) (en_k (by decide +kernel)) ?_
  show xm_G (en 6 L) (d + 1) true 43 66 [some (xm_r (7, 5, 0)), some (xm_i (5 : Int32)), some (xm_i (6 : Int32)), some (xm_i (4 : Int32))] [xm_r (9, 5, 10), xm_i (4 : Int32), xm_r (11, 5, 0)] ((166, 758), (xm_up (xm_up (xm_up fi (7, 5, 0) 0 (5 : Int32)) (7, 5, 0) 1 (6 : Int32)) (8, 5, 0) 2 (sp_1 (6 : Int32))), fl, (xm_up (xm_up (xm_up (xm_up (xm_up (xm_up (xm_up (xm_up (xm_up (xm_up (xm_up (xm_up r (7, 5, 0) 4 (some (8, 5, 0))) (9, 5, 0) 0 (some (10, 5, 0))) (7, 5, 0) 5 (some (9, 5, 0))) (7, 5, 0) 6 (some (11, 5, 0))) (9, 5, 6) 0 (some (10, 5, 6))) (11, 5, 0) 0 (some (9, 5, 6))) (9, 5, 7) 0 (some (10, 5, 7))) (11, 5, 0) 1 (some (9, 5, 7))) (9, 5, 8) 0 (some (10, 5, 8))) (11, 5, 0) 2 (some (9, 5, 8))) (9, 5, 9) 0 (some (10, 5, 9))) (11, 5, 0) 3 (some (9, 5, 9)))) R
  refine pg_43_66 rfl ?_
  refine pg_43_67 rfl ?_
  refine pg_43_68 (Nat.le_of_ble_eq_true rfl) (ct_61 (m := 6) (b := (10, 5, 10)) (rfl : (6 : Int32) = nI 6) (by decide) (en_a (by decide +kernel)) (en_k (by decide +kernel)) (en_ok (by decide +kernel))) ?_
  show xm_G (en 6 L) (d + 1) true 43 71 [some (xm_r (7, 5, 0)), some (xm_i (5 : Int32)), some (xm_i (6 : Int32)), some (xm_i (4 : Int32))] [xm_r (9, 5, 10), xm_i (4 : Int32), xm_r (11, 5, 0)] ((167, 764), (xm_up (xm_up (xm_up fi (7, 5, 0) 0 (5 : Int32)) (7, 5, 0) 1 (6 : Int32)) (8, 5, 0) 2 (sp_1 (6 : Int32))), fl, (xm_up (xm_up (xm_up (xm_up (xm_up (xm_up (xm_up (xm_up (xm_up (xm_up (xm_up (xm_up (xm_up r (7, 5, 0) 4 (some (8, 5, 0))) (9, 5, 0) 0 (some (10, 5, 0))) (7, 5, 0) 5 (some (9, 5, 0))) (7, 5, 0) 6 (some (11, 5, 0))) (9, 5, 6) 0 (some (10, 5, 6))) (11, 5, 0) 0 (some (9, 5, 6))) (9, 5, 7) 0 (some (10, 5, 7))) (11, 5, 0) 1 (some (9, 5, 7))) (9, 5, 8) 0 (some (10, 5, 8))) (11, 5, 0) 2 (some (9, 5, 8))) (9, 5, 9) 0 (some (10, 5, 9))) (11, 5, 0) 3 (some (9, 5, 9))) (9, 5, 10) 0 (some (10, 5, 10)))) R
  refine pg_43_71 (en_ok (t := 4) (s := 0) (by decide +kernel)) (by decide) (by decide) (en_ok (s := 6) (by decide +kernel)) (i := 4) (rfl : (4 : Int32) = nI 4) (by decide) (by decide) ?_
  refine pg_43_72 (y := (5 : Int32)) (lv' := [some (xm_r (7, 5, 0)), some (xm_i (5 : Int32)), some (xm_i (6 : Int32)), some (xm_i (5 : Int32))]) rfl (by decide) rfl ?_
  refine pg_43_75 ?_
  refine pg_43_53 rfl ?_
  refine pg_43_54 rfl ?_
  refine pg_43_55 (fun hc => absurd hc (by decide)) (fun _ => ?_)
  refine pg_43_58 rfl ?_
  refine pg_43_59 (en_ok (by decide +kernel)) rfl ?_
  refine pg_43_62 rfl ?_
  refine pg_43_63 (a := (9, 5, 11)) (en_a (by decide +kernel)) (en_k (by decide +kernel)) ?_
  show xm_G (en 6 L) (d + 1) true 43 66 [some (xm_r (7, 5, 0)), some (xm_i (5 : Int32)), some (xm_i (6 : Int32)), some (xm_i (5 : Int32))] [xm_r (9, 5, 11), xm_i (5 : Int32), xm_r (11, 5, 0)] ((168, 766), (xm_up (xm_up (xm_up fi (7, 5, 0) 0 (5 : Int32)) (7, 5, 0) 1 (6 : Int32)) (8, 5, 0) 2 (sp_1 (6 : Int32))), fl, (xm_up (xm_up (xm_up (xm_up (xm_up (xm_up (xm_up (xm_up (xm_up (xm_up (xm_up (xm_up (xm_up (xm_up r (7, 5, 0) 4 (some (8, 5, 0))) (9, 5, 0) 0 (some (10, 5, 0))) (7, 5, 0) 5 (some (9, 5, 0))) (7, 5, 0) 6 (some (11, 5, 0))) (9, 5, 6) 0 (some (10, 5, 6))) (11, 5, 0) 0 (some (9, 5, 6))) (9, 5, 7) 0 (some (10, 5, 7))) (11, 5, 0) 1 (some (9, 5, 7))) (9, 5, 8) 0 (some (10, 5, 8))) (11, 5, 0) 2 (some (9, 5, 8))) (9, 5, 9) 0 (some (10, 5, 9))) (11, 5, 0) 3 (some (9, 5, 9))) (9, 5, 10) 0 (some (10, 5, 10))) (11, 5, 0) 4 (some (9, 5, 10)))) R
  refine pg_43_66 rfl ?_
  refine pg_43_67 rfl ?_
  refine pg_43_68 (Nat.le_of_ble_eq_true rfl) (ct_61 (m := 6) (b := (10, 5, 11)) (rfl : (6 : Int32) = nI 6) (by decide) (en_a (by decide +kernel)) (en_k (by decide +kernel)) (en_ok (by decide +kernel))) ?_
  show xm_G (en 6 L) (d + 1) true 43 71 [some (xm_r (7, 5, 0)), some (xm_i (5 : Int32)), some (xm_i (6 : Int32)), some (xm_i (5 : Int32))] [xm_r (9, 5, 11), xm_i (5 : Int32), xm_r (11, 5, 0)] ((169, 772), (xm_up (xm_up (xm_up fi (7, 5, 0) 0 (5 : Int32)) (7, 5, 0) 1 (6 : Int32)) (8, 5, 0) 2 (sp_1 (6 : Int32))), fl, (xm_up (xm_up (xm_up (xm_up (xm_up (xm_up (xm_up (xm_up (xm_up (xm_up (xm_up (xm_up (xm_up (xm_up (xm_up r (7, 5, 0) 4 (some (8, 5, 0))) (9, 5, 0) 0 (some (10, 5, 0))) (7, 5, 0) 5 (some (9, 5, 0))) (7, 5, 0) 6 (some (11, 5, 0))) (9, 5, 6) 0 (some (10, 5, 6))) (11, 5, 0) 0 (some (9, 5, 6))) (9, 5, 7) 0 (some (10, 5, 7))) (11, 5, 0) 1 (some (9, 5, 7))) (9, 5, 8) 0 (some (10, 5, 8))) (11, 5, 0) 2 (some (9, 5, 8))) (9, 5, 9) 0 (some (10, 5, 9))) (11, 5, 0) 3 (some (9, 5, 9))) (9, 5, 10) 0 (some (10, 5, 10))) (11, 5, 0) 4 (some (9, 5, 10))) (9, 5, 11) 0 (some (10, 5, 11)))) R
  refine pg_43_71 (en_ok (t := 4) (s := 0) (by decide +kernel)) (by decide) (by decide) (en_ok (s := 6) (by decide +kernel)) (i := 5) (rfl : (5 : Int32) = nI 5) (by decide) (by decide) ?_
  refine pg_43_72 (y := (6 : Int32)) (lv' := [some (xm_r (7, 5, 0)), some (xm_i (5 : Int32)), some (xm_i (6 : Int32)), some (xm_i (6 : Int32))]) rfl (by decide) rfl ?_
  refine pg_43_75 ?_
  refine pg_43_53 rfl ?_
  refine pg_43_54 rfl ?_
  refine pg_43_55 (fun _ => ?_) (fun hc => absurd (by decide) hc)
  refine pg_43_78 rfl ?_
  refine pg_43_79 ?_
  refine pg_43_80 (n := 4) (rfl : (4 : Int32) = nI 4) (by decide) (en_a (a := (12, 5, 0)) (by decide +kernel)) (en_k (by decide +kernel)) ?_
  show xm_G (en 6 L) (d + 1) true 43 83 [some (xm_r (7, 5, 0)), some (xm_i (5 : Int32)), some (xm_i (6 : Int32)), some (xm_i (6 : Int32))] [xm_r (12, 5, 0), xm_r (7, 5, 0)] ((170, 776), (xm_up (xm_up (xm_up fi (7, 5, 0) 0 (5 : Int32)) (7, 5, 0) 1 (6 : Int32)) (8, 5, 0) 2 (sp_1 (6 : Int32))), fl, (xm_up (xm_up (xm_up (xm_up (xm_up (xm_up (xm_up (xm_up (xm_up (xm_up (xm_up (xm_up (xm_up (xm_up (xm_up (xm_up r (7, 5, 0) 4 (some (8, 5, 0))) (9, 5, 0) 0 (some (10, 5, 0))) (7, 5, 0) 5 (some (9, 5, 0))) (7, 5, 0) 6 (some (11, 5, 0))) (9, 5, 6) 0 (some (10, 5, 6))) (11, 5, 0) 0 (some (9, 5, 6))) (9, 5, 7) 0 (some (10, 5, 7))) (11, 5, 0) 1 (some (9, 5, 7))) (9, 5, 8) 0 (some (10, 5, 8))) (11, 5, 0) 2 (some (9, 5, 8))) (9, 5, 9) 0 (some (10, 5, 9))) (11, 5, 0) 3 (some (9, 5, 9))) (9, 5, 10) 0 (some (10, 5, 10))) (11, 5, 0) 4 (some (9, 5, 10))) (9, 5, 11) 0 (some (10, 5, 11))) (11, 5, 0) 5 (some (9, 5, 11)))) R
  refine pg_43_83 (en_ok (by decide +kernel)) ?_
  refine pg_43_86 ?_
  refine pg_43_87 (lv' := [some (xm_r (7, 5, 0)), some (xm_i (5 : Int32)), some (xm_i (6 : Int32)), some (xm_i (0 : Int32))]) rfl ?_
  refine pg_43_88 rfl ?_
  refine pg_43_89 ?_
  refine pg_43_90 (fun hc => absurd hc (by decide)) (fun _ => ?_)
  refine pg_43_93 rfl ?_
  refine pg_43_94 (en_ok (by decide +kernel)) rfl ?_
  refine pg_43_97 rfl ?_
  refine pg_43_98 (a := (9, 5, 2)) (en_a (by decide +kernel)) (en_k (by decide +kernel)) ?_
  show xm_G (en 6 L) (d + 1) true 43 101 [some (xm_r (7, 5, 0)), some (xm_i (5 : Int32)), some (xm_i (6 : Int32)), some (xm_i (0 : Int32))] [xm_r (9, 5, 2), xm_i (0 : Int32), xm_r (12, 5, 0)] ((171, 778), (xm_up (xm_up (xm_up fi (7, 5, 0) 0 (5 : Int32)) (7, 5, 0) 1 (6 : Int32)) (8, 5, 0) 2 (sp_1 (6 : Int32))), fl, (xm_up (xm_up (xm_up (xm_up (xm_up (xm_up (xm_up (xm_up (xm_up (xm_up (xm_up (xm_up (xm_up (xm_up (xm_up (xm_up (xm_up r (7, 5, 0) 4 (some (8, 5, 0))) (9, 5, 0) 0 (some (10, 5, 0))) (7, 5, 0) 5 (some (9, 5, 0))) (7, 5, 0) 6 (some (11, 5, 0))) (9, 5, 6) 0 (some (10, 5, 6))) (11, 5, 0) 0 (some (9, 5, 6))) (9, 5, 7) 0 (some (10, 5, 7))) (11, 5, 0) 1 (some (9, 5, 7))) (9, 5, 8) 0 (some (10, 5, 8))) (11, 5, 0) 2 (some (9, 5, 8))) (9, 5, 9) 0 (some (10, 5, 9))) (11, 5, 0) 3 (some (9, 5, 9))) (9, 5, 10) 0 (some (10, 5, 10))) (11, 5, 0) 4 (some (9, 5, 10))) (9, 5, 11) 0 (some (10, 5, 11))) (11, 5, 0) 5 (some (9, 5, 11))) (7, 5, 0) 7 (some (12, 5, 0)))) R
  refine pg_43_101 rfl ?_
  refine pg_43_102 rfl ?_
  refine pg_43_103 (Nat.le_of_ble_eq_true rfl) (ct_61 (m := 6) (b := (10, 5, 2)) (rfl : (6 : Int32) = nI 6) (by decide) (en_a (by decide +kernel)) (en_k (by decide +kernel)) (en_ok (by decide +kernel))) ?_
  show xm_G (en 6 L) (d + 1) true 43 106 [some (xm_r (7, 5, 0)), some (xm_i (5 : Int32)), some (xm_i (6 : Int32)), some (xm_i (0 : Int32))] [xm_r (9, 5, 2), xm_i (0 : Int32), xm_r (12, 5, 0)] ((172, 784), (xm_up (xm_up (xm_up fi (7, 5, 0) 0 (5 : Int32)) (7, 5, 0) 1 (6 : Int32)) (8, 5, 0) 2 (sp_1 (6 : Int32))), fl, (xm_up (xm_up (xm_up (xm_up (xm_up (xm_up (xm_up (xm_up (xm_up (xm_up (xm_up (xm_up (xm_up (xm_up (xm_up (xm_up (xm_up (xm_up r (7, 5, 0) 4 (some (8, 5, 0))) (9, 5, 0) 0 (some (10, 5, 0))) (7, 5, 0) 5 (some (9, 5, 0))) (7, 5, 0) 6 (some (11, 5, 0))) (9, 5, 6) 0 (some (10, 5, 6))) (11, 5, 0) 0 (some (9, 5, 6))) (9, 5, 7) 0 (some (10, 5, 7))) (11, 5, 0) 1 (some (9, 5, 7))) (9, 5, 8) 0 (some (10, 5, 8))) (11, 5, 0) 2 (some (9, 5, 8))) (9, 5, 9) 0 (some (10, 5, 9))) (11, 5, 0) 3 (some (9, 5, 9))) (9, 5, 10) 0 (some (10, 5, 10))) (11, 5, 0) 4 (some (9, 5, 10))) (9, 5, 11) 0 (some (10, 5, 11))) (11, 5, 0) 5 (some (9, 5, 11))) (7, 5, 0) 7 (some (12, 5, 0))) (9, 5, 2) 0 (some (10, 5, 2)))) R
  refine pg_43_106 (en_ok (t := 4) (s := 0) (by decide +kernel)) (by decide) (by decide) (en_ok (s := 4) (by decide +kernel)) (i := 0) (rfl : (0 : Int32) = nI 0) (by decide) (by decide) ?_
  refine pg_43_107 (y := (1 : Int32)) (lv' := [some (xm_r (7, 5, 0)), some (xm_i (5 : Int32)), some (xm_i (6 : Int32)), some (xm_i (1 : Int32))]) rfl (by decide) rfl ?_
  refine pg_43_110 ?_
  refine pg_43_88 rfl ?_
  refine pg_43_89 ?_
  refine pg_43_90 (fun hc => absurd hc (by decide)) (fun _ => ?_)
  refine pg_43_93 rfl ?_
  refine pg_43_94 (en_ok (by decide +kernel)) rfl ?_
  refine pg_43_97 rfl ?_
  refine pg_43_98 (a := (9, 5, 3)) (en_a (by decide +kernel)) (en_k (by decide +kernel)) ?_
  show xm_G (en 6 L) (d + 1) true 43 101 [some (xm_r (7, 5, 0)), some (xm_i (5 : Int32)), some (xm_i (6 : Int32)), some (xm_i (1 : Int32))] [xm_r (9, 5, 3), xm_i (1 : Int32), xm_r (12, 5, 0)] ((173, 786), (xm_up (xm_up (xm_up fi (7, 5, 0) 0 (5 : Int32)) (7, 5, 0) 1 (6 : Int32)) (8, 5, 0) 2 (sp_1 (6 : Int32))), fl, (xm_up (xm_up (xm_up (xm_up (xm_up (xm_up (xm_up (xm_up (xm_up (xm_up (xm_up (xm_up (xm_up (xm_up (xm_up (xm_up (xm_up (xm_up (xm_up r (7, 5, 0) 4 (some (8, 5, 0))) (9, 5, 0) 0 (some (10, 5, 0))) (7, 5, 0) 5 (some (9, 5, 0))) (7, 5, 0) 6 (some (11, 5, 0))) (9, 5, 6) 0 (some (10, 5, 6))) (11, 5, 0) 0 (some (9, 5, 6))) (9, 5, 7) 0 (some (10, 5, 7))) (11, 5, 0) 1 (some (9, 5, 7))) (9, 5, 8) 0 (some (10, 5, 8))) (11, 5, 0) 2 (some (9, 5, 8))) (9, 5, 9) 0 (some (10, 5, 9))) (11, 5, 0) 3 (some (9, 5, 9))) (9, 5, 10) 0 (some (10, 5, 10))) (11, 5, 0) 4 (some (9, 5, 10))) (9, 5, 11) 0 (some (10, 5, 11))) (11, 5, 0) 5 (some (9, 5, 11))) (7, 5, 0) 7 (some (12, 5, 0))) (9, 5, 2) 0 (some (10, 5, 2))) (12, 5, 0) 0 (some (9, 5, 2)))) R
  refine pg_43_101 rfl ?_
  refine pg_43_102 rfl ?_
  refine pg_43_103 (Nat.le_of_ble_eq_true rfl) (ct_61 (m := 6) (b := (10, 5, 3)) (rfl : (6 : Int32) = nI 6) (by decide) (en_a (by decide +kernel)) (en_k (by decide +kernel)) (en_ok (by decide +kernel))) ?_
  show xm_G (en 6 L) (d + 1) true 43 106 [some (xm_r (7, 5, 0)), some (xm_i (5 : Int32)), some (xm_i (6 : Int32)), some (xm_i (1 : Int32))] [xm_r (9, 5, 3), xm_i (1 : Int32), xm_r (12, 5, 0)] ((174, 792), (xm_up (xm_up (xm_up fi (7, 5, 0) 0 (5 : Int32)) (7, 5, 0) 1 (6 : Int32)) (8, 5, 0) 2 (sp_1 (6 : Int32))), fl, (xm_up (xm_up (xm_up (xm_up (xm_up (xm_up (xm_up (xm_up (xm_up (xm_up (xm_up (xm_up (xm_up (xm_up (xm_up (xm_up (xm_up (xm_up (xm_up (xm_up r (7, 5, 0) 4 (some (8, 5, 0))) (9, 5, 0) 0 (some (10, 5, 0))) (7, 5, 0) 5 (some (9, 5, 0))) (7, 5, 0) 6 (some (11, 5, 0))) (9, 5, 6) 0 (some (10, 5, 6))) (11, 5, 0) 0 (some (9, 5, 6))) (9, 5, 7) 0 (some (10, 5, 7))) (11, 5, 0) 1 (some (9, 5, 7))) (9, 5, 8) 0 (some (10, 5, 8))) (11, 5, 0) 2 (some (9, 5, 8))) (9, 5, 9) 0 (some (10, 5, 9))) (11, 5, 0) 3 (some (9, 5, 9))) (9, 5, 10) 0 (some (10, 5, 10))) (11, 5, 0) 4 (some (9, 5, 10))) (9, 5, 11) 0 (some (10, 5, 11))) (11, 5, 0) 5 (some (9, 5, 11))) (7, 5, 0) 7 (some (12, 5, 0))) (9, 5, 2) 0 (some (10, 5, 2))) (12, 5, 0) 0 (some (9, 5, 2))) (9, 5, 3) 0 (some (10, 5, 3)))) R
  refine pg_43_106 (en_ok (t := 4) (s := 0) (by decide +kernel)) (by decide) (by decide) (en_ok (s := 4) (by decide +kernel)) (i := 1) (rfl : (1 : Int32) = nI 1) (by decide) (by decide) ?_
  refine pg_43_107 (y := (2 : Int32)) (lv' := [some (xm_r (7, 5, 0)), some (xm_i (5 : Int32)), some (xm_i (6 : Int32)), some (xm_i (2 : Int32))]) rfl (by decide) rfl ?_
  refine pg_43_110 ?_
  refine pg_43_88 rfl ?_
  refine pg_43_89 ?_
  refine pg_43_90 (fun hc => absurd hc (by decide)) (fun _ => ?_)
  refine pg_43_93 rfl ?_
  refine pg_43_94 (en_ok (by decide +kernel)) rfl ?_
  refine pg_43_97 rfl ?_
  refine pg_43_98 (a := (9, 5, 4)) (en_a (by decide +kernel)) (en_k (by decide +kernel)) ?_
  show xm_G (en 6 L) (d + 1) true 43 101 [some (xm_r (7, 5, 0)), some (xm_i (5 : Int32)), some (xm_i (6 : Int32)), some (xm_i (2 : Int32))] [xm_r (9, 5, 4), xm_i (2 : Int32), xm_r (12, 5, 0)] ((175, 794), (xm_up (xm_up (xm_up fi (7, 5, 0) 0 (5 : Int32)) (7, 5, 0) 1 (6 : Int32)) (8, 5, 0) 2 (sp_1 (6 : Int32))), fl, (xm_up (xm_up (xm_up (xm_up (xm_up (xm_up (xm_up (xm_up (xm_up (xm_up (xm_up (xm_up (xm_up (xm_up (xm_up (xm_up (xm_up (xm_up (xm_up (xm_up (xm_up r (7, 5, 0) 4 (some (8, 5, 0))) (9, 5, 0) 0 (some (10, 5, 0))) (7, 5, 0) 5 (some (9, 5, 0))) (7, 5, 0) 6 (some (11, 5, 0))) (9, 5, 6) 0 (some (10, 5, 6))) (11, 5, 0) 0 (some (9, 5, 6))) (9, 5, 7) 0 (some (10, 5, 7))) (11, 5, 0) 1 (some (9, 5, 7))) (9, 5, 8) 0 (some (10, 5, 8))) (11, 5, 0) 2 (some (9, 5, 8))) (9, 5, 9) 0 (some (10, 5, 9))) (11, 5, 0) 3 (some (9, 5, 9))) (9, 5, 10) 0 (some (10, 5, 10))) (11, 5, 0) 4 (some (9, 5, 10))) (9, 5, 11) 0 (some (10, 5, 11))) (11, 5, 0) 5 (some (9, 5, 11))) (7, 5, 0) 7 (some (12, 5, 0))) (9, 5, 2) 0 (some (10, 5, 2))) (12, 5, 0) 0 (some (9, 5, 2))) (9, 5, 3) 0 (some (10, 5, 3))) (12, 5, 0) 1 (some (9, 5, 3)))) R
  refine pg_43_101 rfl ?_
  refine pg_43_102 rfl ?_
  refine pg_43_103 (Nat.le_of_ble_eq_true rfl) (ct_61 (m := 6) (b := (10, 5, 4)) (rfl : (6 : Int32) = nI 6) (by decide) (en_a (by decide +kernel)) (en_k (by decide +kernel)) (en_ok (by decide +kernel))) ?_
  show xm_G (en 6 L) (d + 1) true 43 106 [some (xm_r (7, 5, 0)), some (xm_i (5 : Int32)), some (xm_i (6 : Int32)), some (xm_i (2 : Int32))] [xm_r (9, 5, 4), xm_i (2 : Int32), xm_r (12, 5, 0)] ((176, 800), (xm_up (xm_up (xm_up fi (7, 5, 0) 0 (5 : Int32)) (7, 5, 0) 1 (6 : Int32)) (8, 5, 0) 2 (sp_1 (6 : Int32))), fl, (xm_up (xm_up (xm_up (xm_up (xm_up (xm_up (xm_up (xm_up (xm_up (xm_up (xm_up (xm_up (xm_up (xm_up (xm_up (xm_up (xm_up (xm_up (xm_up (xm_up (xm_up (xm_up r (7, 5, 0) 4 (some (8, 5, 0))) (9, 5, 0) 0 (some (10, 5, 0))) (7, 5, 0) 5 (some (9, 5, 0))) (7, 5, 0) 6 (some (11, 5, 0))) (9, 5, 6) 0 (some (10, 5, 6))) (11, 5, 0) 0 (some (9, 5, 6))) (9, 5, 7) 0 (some (10, 5, 7))) (11, 5, 0) 1 (some (9, 5, 7))) (9, 5, 8) 0 (some (10, 5, 8))) (11, 5, 0) 2 (some (9, 5, 8))) (9, 5, 9) 0 (some (10, 5, 9))) (11, 5, 0) 3 (some (9, 5, 9))) (9, 5, 10) 0 (some (10, 5, 10))) (11, 5, 0) 4 (some (9, 5, 10))) (9, 5, 11) 0 (some (10, 5, 11))) (11, 5, 0) 5 (some (9, 5, 11))) (7, 5, 0) 7 (some (12, 5, 0))) (9, 5, 2) 0 (some (10, 5, 2))) (12, 5, 0) 0 (some (9, 5, 2))) (9, 5, 3) 0 (some (10, 5, 3))) (12, 5, 0) 1 (some (9, 5, 3))) (9, 5, 4) 0 (some (10, 5, 4)))) R
  refine pg_43_106 (en_ok (t := 4) (s := 0) (by decide +kernel)) (by decide) (by decide) (en_ok (s := 4) (by decide +kernel)) (i := 2) (rfl : (2 : Int32) = nI 2) (by decide) (by decide) ?_
  refine pg_43_107 (y := (3 : Int32)) (lv' := [some (xm_r (7, 5, 0)), some (xm_i (5 : Int32)), some (xm_i (6 : Int32)), some (xm_i (3 : Int32))]) rfl (by decide) rfl ?_
  refine pg_43_110 ?_
  refine pg_43_88 rfl ?_
  refine pg_43_89 ?_
  refine pg_43_90 (fun hc => absurd hc (by decide)) (fun _ => ?_)
  refine pg_43_93 rfl ?_
  refine pg_43_94 (en_ok (by decide +kernel)) rfl ?_
  refine pg_43_97 rfl ?_
  refine pg_43_98 (a := (9, 5, 5)) (en_a (by decide +kernel)) (en_k (by decide +kernel)) ?_
  show xm_G (en 6 L) (d + 1) true 43 101 [some (xm_r (7, 5, 0)), some (xm_i (5 : Int32)), some (xm_i (6 : Int32)), some (xm_i (3 : Int32))] [xm_r (9, 5, 5), xm_i (3 : Int32), xm_r (12, 5, 0)] ((177, 802), (xm_up (xm_up (xm_up fi (7, 5, 0) 0 (5 : Int32)) (7, 5, 0) 1 (6 : Int32)) (8, 5, 0) 2 (sp_1 (6 : Int32))), fl, (xm_up (xm_up (xm_up (xm_up (xm_up (xm_up (xm_up (xm_up (xm_up (xm_up (xm_up (xm_up (xm_up (xm_up (xm_up (xm_up (xm_up (xm_up (xm_up (xm_up (xm_up (xm_up (xm_up r (7, 5, 0) 4 (some (8, 5, 0))) (9, 5, 0) 0 (some (10, 5, 0))) (7, 5, 0) 5 (some (9, 5, 0))) (7, 5, 0) 6 (some (11, 5, 0))) (9, 5, 6) 0 (some (10, 5, 6))) (11, 5, 0) 0 (some (9, 5, 6))) (9, 5, 7) 0 (some (10, 5, 7))) (11, 5, 0) 1 (some (9, 5, 7))) (9, 5, 8) 0 (some (10, 5, 8))) (11, 5, 0) 2 (some (9, 5, 8))) (9, 5, 9) 0 (some (10, 5, 9))) (11, 5, 0) 3 (some (9, 5, 9))) (9, 5, 10) 0 (some (10, 5, 10))) (11, 5, 0) 4 (some (9, 5, 10))) (9, 5, 11) 0 (some (10, 5, 11))) (11, 5, 0) 5 (some (9, 5, 11))) (7, 5, 0) 7 (some (12, 5, 0))) (9, 5, 2) 0 (some (10, 5, 2))) (12, 5, 0) 0 (some (9, 5, 2))) (9, 5, 3) 0 (some (10, 5, 3))) (12, 5, 0) 1 (some (9, 5, 3))) (9, 5, 4) 0 (some (10, 5, 4))) (12, 5, 0) 2 (some (9, 5, 4)))) R
  refine pg_43_101 rfl ?_
  refine pg_43_102 rfl ?_
  refine pg_43_103 (Nat.le_of_ble_eq_true rfl) (ct_61 (m := 6) (b := (10, 5, 5)) (rfl : (6 : Int32) = nI 6) (by decide) (en_a (by decide +kernel)) (en_k (by decide +kernel)) (en_ok (by decide +kernel))) ?_
  show xm_G (en 6 L) (d + 1) true 43 106 [some (xm_r (7, 5, 0)), some (xm_i (5 : Int32)), some (xm_i (6 : Int32)), some (xm_i (3 : Int32))] [xm_r (9, 5, 5), xm_i (3 : Int32), xm_r (12, 5, 0)] ((178, 808), (xm_up (xm_up (xm_up fi (7, 5, 0) 0 (5 : Int32)) (7, 5, 0) 1 (6 : Int32)) (8, 5, 0) 2 (sp_1 (6 : Int32))), fl, (xm_up (xm_up (xm_up (xm_up (xm_up (xm_up (xm_up (xm_up (xm_up (xm_up (xm_up (xm_up (xm_up (xm_up (xm_up (xm_up (xm_up (xm_up (xm_up (xm_up (xm_up (xm_up (xm_up (xm_up r (7, 5, 0) 4 (some (8, 5, 0))) (9, 5, 0) 0 (some (10, 5, 0))) (7, 5, 0) 5 (some (9, 5, 0))) (7, 5, 0) 6 (some (11, 5, 0))) (9, 5, 6) 0 (some (10, 5, 6))) (11, 5, 0) 0 (some (9, 5, 6))) (9, 5, 7) 0 (some (10, 5, 7))) (11, 5, 0) 1 (some (9, 5, 7))) (9, 5, 8) 0 (some (10, 5, 8))) (11, 5, 0) 2 (some (9, 5, 8))) (9, 5, 9) 0 (some (10, 5, 9))) (11, 5, 0) 3 (some (9, 5, 9))) (9, 5, 10) 0 (some (10, 5, 10))) (11, 5, 0) 4 (some (9, 5, 10))) (9, 5, 11) 0 (some (10, 5, 11))) (11, 5, 0) 5 (some (9, 5, 11))) (7, 5, 0) 7 (some (12, 5, 0))) (9, 5, 2) 0 (some (10, 5, 2))) (12, 5, 0) 0 (some (9, 5, 2))) (9, 5, 3) 0 (some (10, 5, 3))) (12, 5, 0) 1 (some (9, 5, 3))) (9, 5, 4) 0 (some (10, 5, 4))) (12, 5, 0) 2 (some (9, 5, 4))) (9, 5, 5) 0 (some (10, 5, 5)))) R
  refine pg_43_106 (en_ok (t := 4) (s := 0) (by decide +kernel)) (by decide) (by decide) (en_ok (s := 4) (by decide +kernel)) (i := 3) (rfl : (3 : Int32) = nI 3) (by decide) (by decide) ?_
  refine pg_43_107 (y := (4 : Int32)) (lv' := [some (xm_r (7, 5, 0)), some (xm_i (5 : Int32)), some (xm_i (6 : Int32)), some (xm_i (4 : Int32))]) rfl (by decide) rfl ?_
  refine pg_43_110 ?_
  refine pg_43_88 rfl ?_
  refine pg_43_89 ?_
  refine pg_43_90 (fun _ => ?_) (fun hc => absurd (by decide) hc)
  refine pg_43_113 rfl ?_
  refine pg_43_114 (a := (9, 5, 1)) (en_a (by decide +kernel)) (en_k (by decide +kernel)) ?_
  show xm_G (en 6 L) (d + 1) true 43 117 [some (xm_r (7, 5, 0)), some (xm_i (5 : Int32)), some (xm_i (6 : Int32)), some (xm_i (4 : Int32))] [xm_r (9, 5, 1), xm_r (7, 5, 0)] ((179, 810), (xm_up (xm_up (xm_up fi (7, 5, 0) 0 (5 : Int32)) (7, 5, 0) 1 (6 : Int32)) (8, 5, 0) 2 (sp_1 (6 : Int32))), fl, (xm_up (xm_up (xm_up (xm_up (xm_up (xm_up (xm_up (xm_up (xm_up (xm_up (xm_up (xm_up (xm_up (xm_up (xm_up (xm_up (xm_up (xm_up (xm_up (xm_up (xm_up (xm_up (xm_up (xm_up (xm_up r (7, 5, 0) 4 (some (8, 5, 0))) (9, 5, 0) 0 (some (10, 5, 0))) (7, 5, 0) 5 (some (9, 5, 0))) (7, 5, 0) 6 (some (11, 5, 0))) (9, 5, 6) 0 (some (10, 5, 6))) (11, 5, 0) 0 (some (9, 5, 6))) (9, 5, 7) 0 (some (10, 5, 7))) (11, 5, 0) 1 (some (9, 5, 7))) (9, 5, 8) 0 (some (10, 5, 8))) (11, 5, 0) 2 (some (9, 5, 8))) (9, 5, 9) 0 (some (10, 5, 9))) (11, 5, 0) 3 (some (9, 5, 9))) (9, 5, 10) 0 (some (10, 5, 10))) (11, 5, 0) 4 (some (9, 5, 10))) (9, 5, 11) 0 (some (10, 5, 11))) (11, 5, 0) 5 (some (9, 5, 11))) (7, 5, 0) 7 (some (12, 5, 0))) (9, 5, 2) 0 (some (10, 5, 2))) (12, 5, 0) 0 (some (9, 5, 2))) (9, 5, 3) 0 (some (10, 5, 3))) (12, 5, 0) 1 (some (9, 5, 3))) (9, 5, 4) 0 (some (10, 5, 4))) (12, 5, 0) 2 (some (9, 5, 4))) (9, 5, 5) 0 (some (10, 5, 5))) (12, 5, 0) 3 (some (9, 5, 5)))) R
  refine pg_43_117 rfl ?_
  refine pg_43_118 rfl ?_
  refine pg_43_119 (Nat.le_of_ble_eq_true rfl) (ct_61 (m := 6) (b := (10, 5, 1)) (rfl : (6 : Int32) = nI 6) (by decide) (en_a (by decide +kernel)) (en_k (by decide +kernel)) (en_ok (by decide +kernel))) ?_
  show xm_G (en 6 L) (d + 1) true 43 122 [some (xm_r (7, 5, 0)), some (xm_i (5 : Int32)), some (xm_i (6 : Int32)), some (xm_i (4 : Int32))] [xm_r (9, 5, 1), xm_r (7, 5, 0)] ((180, 816), (xm_up (xm_up (xm_up fi (7, 5, 0) 0 (5 : Int32)) (7, 5, 0) 1 (6 : Int32)) (8, 5, 0) 2 (sp_1 (6 : Int32))), fl, (xm_up (xm_up (xm_up (xm_up (xm_up (xm_up (xm_up (xm_up (xm_up (xm_up (xm_up (xm_up (xm_up (xm_up (xm_up (xm_up (xm_up (xm_up (xm_up (xm_up (xm_up (xm_up (xm_up (xm_up (xm_up (xm_up r (7, 5, 0) 4 (some (8, 5, 0))) (9, 5, 0) 0 (some (10, 5, 0))) (7, 5, 0) 5 (some (9, 5, 0))) (7, 5, 0) 6 (some (11, 5, 0))) (9, 5, 6) 0 (some (10, 5, 6))) (11, 5, 0) 0 (some (9, 5, 6))) (9, 5, 7) 0 (some (10, 5, 7))) (11, 5, 0) 1 (some (9, 5, 7))) (9, 5, 8) 0 (some (10, 5, 8))) (11, 5, 0) 2 (some (9, 5, 8))) (9, 5, 9) 0 (some (10, 5, 9))) (11, 5, 0) 3 (some (9, 5, 9))) (9, 5, 10) 0 (some (10, 5, 10))) (11, 5, 0) 4 (some (9, 5, 10))) (9, 5, 11) 0 (some (10, 5, 11))) (11, 5, 0) 5 (some (9, 5, 11))) (7, 5, 0) 7 (some (12, 5, 0))) (9, 5, 2) 0 (some (10, 5, 2))) (12, 5, 0) 0 (some (9, 5, 2))) (9, 5, 3) 0 (some (10, 5, 3))) (12, 5, 0) 1 (some (9, 5, 3))) (9, 5, 4) 0 (some (10, 5, 4))) (12, 5, 0) 2 (some (9, 5, 4))) (9, 5, 5) 0 (some (10, 5, 5))) (12, 5, 0) 3 (some (9, 5, 5))) (9, 5, 1) 0 (some (10, 5, 1)))) R
  refine pg_43_122 (en_ok (by decide +kernel)) ?_
  refine pg_43_125 rfl ?_
  refine pg_43_126 rfl ?_
  refine pg_43_127 (n := 6) (rfl : (6 : Int32) = nI 6) (by decide) (en_a (a := (13, 5, 0)) (by decide +kernel)) (en_k (by decide +kernel)) ?_
  show xm_G (en 6 L) (d + 1) true 43 129 [some (xm_r (7, 5, 0)), some (xm_i (5 : Int32)), some (xm_i (6 : Int32)), some (xm_i (4 : Int32))] [xm_r (13, 5, 0), xm_r (7, 5, 0)] ((181, 822), (xm_up (xm_up (xm_up fi (7, 5, 0) 0 (5 : Int32)) (7, 5, 0) 1 (6 : Int32)) (8, 5, 0) 2 (sp_1 (6 : Int32))), fl, (xm_up (xm_up (xm_up (xm_up (xm_up (xm_up (xm_up (xm_up (xm_up (xm_up (xm_up (xm_up (xm_up (xm_up (xm_up (xm_up (xm_up (xm_up (xm_up (xm_up (xm_up (xm_up (xm_up (xm_up (xm_up (xm_up (xm_up r (7, 5, 0) 4 (some (8, 5, 0))) (9, 5, 0) 0 (some (10, 5, 0))) (7, 5, 0) 5 (some (9, 5, 0))) (7, 5, 0) 6 (some (11, 5, 0))) (9, 5, 6) 0 (some (10, 5, 6))) (11, 5, 0) 0 (some (9, 5, 6))) (9, 5, 7) 0 (some (10, 5, 7))) (11, 5, 0) 1 (some (9, 5, 7))) (9, 5, 8) 0 (some (10, 5, 8))) (11, 5, 0) 2 (some (9, 5, 8))) (9, 5, 9) 0 (some (10, 5, 9))) (11, 5, 0) 3 (some (9, 5, 9))) (9, 5, 10) 0 (some (10, 5, 10))) (11, 5, 0) 4 (some (9, 5, 10))) (9, 5, 11) 0 (some (10, 5, 11))) (11, 5, 0) 5 (some (9, 5, 11))) (7, 5, 0) 7 (some (12, 5, 0))) (9, 5, 2) 0 (some (10, 5, 2))) (12, 5, 0) 0 (some (9, 5, 2))) (9, 5, 3) 0 (some (10, 5, 3))) (12, 5, 0) 1 (some (9, 5, 3))) (9, 5, 4) 0 (some (10, 5, 4))) (12, 5, 0) 2 (some (9, 5, 4))) (9, 5, 5) 0 (some (10, 5, 5))) (12, 5, 0) 3 (some (9, 5, 5))) (9, 5, 1) 0 (some (10, 5, 1))) (7, 5, 0) 8 (some (9, 5, 1)))) R
  refine pg_43_129 (en_ok (by decide +kernel)) ?_
  exact go_eq hR.symm (pg_43_132)
def cf_0_6_0 (fi : FI) (x : Int32) (k : Int32) : FI := (cf_43_6_5 (cf_43_6_4 (cf_43_6_3 (cf_43_6_2 (cf_43_6_1 (cf_43_6_0 (xm_up fi (1, 0, 0) 0 (if k < (1 : Int32) then (3 : Int32) else (if (8 : Int32) < k then (3 : Int32) else k)))))))))
def cl_0_6_0 (fl : FL) : FL := (xm_up fl (1, 0, 0) 2 65536)
def cr_0_6_0 (r : xm_I → Nat → Option xm_I) : xm_I → Nat → Option xm_I := (xm_up (xm_up (xm_up (cr_43_6_5 (xm_up (cr_43_6_4 (xm_up (cr_43_6_3 (xm_up (cr_43_6_2 (xm_up (cr_43_6_1 (xm_up (cr_43_6_0 (xm_up (xm_up (cr_36_6_0 (xm_up r (0, 0, 0) 0 (some (1, 0, 0)))) (0, 0, 0) 1 (some (2, 0, 0))) (0, 0, 0) 2 (some (6, 0, 0)))) (6, 0, 0) 0 (some (7, 0, 0)))) (6, 0, 0) 1 (some (7, 1, 0)))) (6, 0, 0) 2 (some (7, 2, 0)))) (6, 0, 0) 3 (some (7, 3, 0)))) (6, 0, 0) 4 (some (7, 4, 0)))) (6, 0, 0) 5 (some (7, 5, 0))) (9, 6, 0) 0 (some (10, 6, 0))) (0, 0, 0) 3 (some (9, 6, 0)))
set_option maxRecDepth 8000 in
theorem ct_0_6_0 {L : Nat} {fi : FI} {fl : FL} {r : xm_I → Nat → Option xm_I} {d : Nat} {x : Int32} {k : Int32} (hN : (if x < (4 : Int32) then (4 : Int32) else (if (6 : Int32) < x then (4 : Int32) else x)) = (6 : Int32)) : xm_C (en 6 L) (d + 3) true 0 [xm_r (0, 0, 0), xm_i x, xm_i k] ((1, 7), fi, fl, r) (.inl none, ((183, 830), cf_0_6_0 fi x k, cl_0_6_0 fl, cr_0_6_0 r)) := by
  suffices key : ∀ (E : xm_E) (R : xm_O), E = en 6 L → ((.inl none, ((183, 830), cf_0_6_0 fi x k, cl_0_6_0 fl, cr_0_6_0 r)) : xm_O) = R → xm_G (en 6 L) (d + 2) true 0 0 [some (xm_r (0, 0, 0)), some (xm_i x), some (xm_i k), none, none] [] ((1, 7), fi, fl, r) R from go_inr (by decide) (Nat.le_of_ble_eq_true rfl) (key _ _ rfl rfl)
  intro E R hE hR
  refine pg_0_0 rfl ?_
  refine pg_0_1 (Nat.le_of_ble_eq_true rfl) ?_
  refine pg_0_4 rfl ?_
  refine pg_0_5 ?_
  suffices KJ : xm_G (en 6 L) (d + 2) true 0 20 [some (xm_r (0, 0, 0)), some (xm_i x), some (xm_i k), none, none] [xm_i (if x < (4 : Int32) then (4 : Int32) else (if (6 : Int32) < x then (4 : Int32) else x))] ((1, 7), fi, fl, r) R by
    refine pg_0_6 (fun hc1 => ?_) (fun hc2 => ?_)
    · refine pg_0_19 ?_
      repeat rw [if_pos hc1] at KJ
      repeat rw [if_pos hc1]
      exact KJ
    · refine pg_0_9 rfl ?_
      refine pg_0_10 ?_
      refine pg_0_12 (fun hc3 => ?_) (fun hc4 => ?_)
      · refine pg_0_19 ?_
        repeat rw [if_neg hc2] at KJ
        repeat rw [if_pos hc3] at KJ
        repeat rw [if_neg hc2]
        repeat rw [if_pos hc3]
        exact KJ
      · refine pg_0_15 rfl ?_
        refine pg_0_16 ?_
        repeat rw [if_neg hc2] at KJ
        repeat rw [if_neg hc4] at KJ
        repeat rw [if_neg hc2]
        repeat rw [if_neg hc4]
        exact KJ
  refine go_top (y := (6 : Int32)) hN ?_
  refine pg_0_20 (lv' := [some (xm_r (0, 0, 0)), some (xm_i x), some (xm_i k), some (xm_i (6 : Int32)), none]) rfl ?_
  refine pg_0_21 rfl ?_
  refine pg_0_22 (a := (1, 0, 0)) (en_a (by decide +kernel)) (en_k (by decide +kernel)) ?_
  show xm_G (en 6 L) (d + 2) true 0 25 [some (xm_r (0, 0, 0)), some (xm_i x), some (xm_i k), some (xm_i (6 : Int32)), none] [xm_r (1, 0, 0), xm_r (0, 0, 0)] ((2, 12), fi, fl, r) R
  refine pg_0_25 rfl ?_
  refine pg_0_26 rfl ?_
  refine pg_0_27 ?_
  suffices KJ : xm_G (en 6 L) (d + 2) true 0 42 [some (xm_r (0, 0, 0)), some (xm_i x), some (xm_i k), some (xm_i (6 : Int32)), none] [xm_i (if k < (1 : Int32) then (3 : Int32) else (if (8 : Int32) < k then (3 : Int32) else k)), xm_r (1, 0, 0), xm_r (1, 0, 0), xm_r (0, 0, 0)] ((2, 12), fi, fl, r) R by
    refine pg_0_28 (fun hc5 => ?_) (fun hc6 => ?_)
    · refine pg_0_41 ?_
      repeat rw [if_pos hc5] at KJ
      repeat rw [if_pos hc5]
      exact KJ
    · refine pg_0_31 rfl ?_
      refine pg_0_32 ?_
      refine pg_0_34 (fun hc7 => ?_) (fun hc8 => ?_)
      · refine pg_0_41 ?_
        repeat rw [if_neg hc6] at KJ
        repeat rw [if_pos hc7] at KJ
        repeat rw [if_neg hc6]
        repeat rw [if_pos hc7]
        exact KJ
      · refine pg_0_37 rfl ?_
        refine pg_0_38 ?_
        repeat rw [if_neg hc6] at KJ
        repeat rw [if_neg hc8] at KJ
        repeat rw [if_neg hc6]
        repeat rw [if_neg hc8]
        exact KJ
  refine pg_0_42 (Nat.le_of_ble_eq_true rfl) (ct_35 (en_ok (by decide +kernel))) ?_
  show xm_G (en 6 L) (d + 2) true 0 45 [some (xm_r (0, 0, 0)), some (xm_i x), some (xm_i k), some (xm_i (6 : Int32)), none] [xm_r (1, 0, 0), xm_r (0, 0, 0)] ((2, 12), (xm_up fi (1, 0, 0) 0 (if k < (1 : Int32) then (3 : Int32) else (if (8 : Int32) < k then (3 : Int32) else k))), (xm_up fl (1, 0, 0) 2 65536), r) R
  refine pg_0_45 (en_ok (by decide +kernel)) ?_
  refine pg_0_48 rfl ?_
  refine pg_0_49 (a := (2, 0, 0)) (en_a (by decide +kernel)) (en_k (by decide +kernel)) ?_
  show xm_G (en 6 L) (d + 2) true 0 52 [some (xm_r (0, 0, 0)), some (xm_i x), some (xm_i k), some (xm_i (6 : Int32)), none] [xm_r (2, 0, 0), xm_r (0, 0, 0)] ((3, 23), (xm_up fi (1, 0, 0) 0 (if k < (1 : Int32) then (3 : Int32) else (if (8 : Int32) < k then (3 : Int32) else k))), (xm_up fl (1, 0, 0) 2 65536), (xm_up r (0, 0, 0) 0 (some (1, 0, 0)))) R
  refine pg_0_52 rfl ?_
  refine pg_0_53 rfl ?_
  refine pg_0_54 (Nat.le_of_ble_eq_true rfl) (ct_36_6_0) ?_
  show xm_G (en 6 L) (d + 2) true 0 57 [some (xm_r (0, 0, 0)), some (xm_i x), some (xm_i k), some (xm_i (6 : Int32)), none] [xm_r (2, 0, 0), xm_r (0, 0, 0)] ((6, 42), (xm_up fi (1, 0, 0) 0 (if k < (1 : Int32) then (3 : Int32) else (if (8 : Int32) < k then (3 : Int32) else k))), (xm_up fl (1, 0, 0) 2 65536), (cr_36_6_0 (xm_up r (0, 0, 0) 0 (some (1, 0, 0))))) R
  refine pg_0_57 (en_ok (by decide +kernel)) ?_
  refine pg_0_60 rfl ?_
  refine pg_0_61 rfl ?_
  refine pg_0_62 (n := 6) (rfl : (6 : Int32) = nI 6) (by decide) (en_a (a := (6, 0, 0)) (by decide +kernel)) (en_k (by decide +kernel)) ?_
  show xm_G (en 6 L) (d + 2) true 0 65 [some (xm_r (0, 0, 0)), some (xm_i x), some (xm_i k), some (xm_i (6 : Int32)), none] [xm_r (6, 0, 0), xm_r (0, 0, 0)] ((7, 48), (xm_up fi (1, 0, 0) 0 (if k < (1 : Int32) then (3 : Int32) else (if (8 : Int32) < k then (3 : Int32) else k))), (xm_up fl (1, 0, 0) 2 65536), (xm_up (cr_36_6_0 (xm_up r (0, 0, 0) 0 (some (1, 0, 0)))) (0, 0, 0) 1 (some (2, 0, 0)))) R
  refine pg_0_65 (en_ok (by decide +kernel)) ?_
  refine pg_0_68 ?_
  refine pg_0_69 (lv' := [some (xm_r (0, 0, 0)), some (xm_i x), some (xm_i k), some (xm_i (6 : Int32)), some (xm_i (0 : Int32))]) rfl ?_
  refine pg_0_71 rfl ?_
  refine pg_0_73 rfl ?_
  refine pg_0_74 (fun hc => absurd hc (by decide)) (fun _ => ?_)
  refine pg_0_77 rfl ?_
  refine pg_0_78 (en_ok (by decide +kernel)) rfl ?_
  refine pg_0_81 rfl ?_
  refine pg_0_83 (a := (7, 0, 0)) (en_a (by decide +kernel)) (en_k (by decide +kernel)) ?_
  show xm_G (en 6 L) (d + 2) true 0 86 [some (xm_r (0, 0, 0)), some (xm_i x), some (xm_i k), some (xm_i (6 : Int32)), some (xm_i (0 : Int32))] [xm_r (7, 0, 0), xm_i (0 : Int32), xm_r (6, 0, 0)] ((8, 61), (xm_up fi (1, 0, 0) 0 (if k < (1 : Int32) then (3 : Int32) else (if (8 : Int32) < k then (3 : Int32) else k))), (xm_up fl (1, 0, 0) 2 65536), (xm_up (xm_up (cr_36_6_0 (xm_up r (0, 0, 0) 0 (some (1, 0, 0)))) (0, 0, 0) 1 (some (2, 0, 0))) (0, 0, 0) 2 (some (6, 0, 0)))) R
  refine pg_0_86 rfl ?_
  refine pg_0_87 rfl ?_
  refine pg_0_89 rfl ?_
  refine pg_0_90 (Nat.le_of_ble_eq_true rfl) (ct_43_6_0) ?_
  show xm_G (en 6 L) (d + 2) true 0 93 [some (xm_r (0, 0, 0)), some (xm_i x), some (xm_i k), some (xm_i (6 : Int32)), some (xm_i (0 : Int32))] [xm_r (7, 0, 0), xm_i (0 : Int32), xm_r (6, 0, 0)] ((36, 177), (cf_43_6_0 (xm_up fi (1, 0, 0) 0 (if k < (1 : Int32) then (3 : Int32) else (if (8 : Int32) < k then (3 : Int32) else k)))), (xm_up fl (1, 0, 0) 2 65536), (cr_43_6_0 (xm_up (xm_up (cr_36_6_0 (xm_up r (0, 0, 0) 0 (some (1, 0, 0)))) (0, 0, 0) 1 (some (2, 0, 0))) (0, 0, 0) 2 (some (6, 0, 0))))) R
  refine pg_0_93 (en_ok (t := 3) (s := 0) (by decide +kernel)) (by decide) (by decide) (en_ok (s := 6) (by decide +kernel)) (i := 0) (rfl : (0 : Int32) = nI 0) (by decide) (by decide) ?_
  refine pg_0_94 (y := (1 : Int32)) (lv' := [some (xm_r (0, 0, 0)), some (xm_i x), some (xm_i k), some (xm_i (6 : Int32)), some (xm_i (1 : Int32))]) rfl (by decide) rfl ?_
  refine pg_0_97 ?_
  refine pg_0_71 rfl ?_
  refine pg_0_73 rfl ?_
  refine pg_0_74 (fun hc => absurd hc (by decide)) (fun _ => ?_)
  refine pg_0_77 rfl ?_
  refine pg_0_78 (en_ok (by decide +kernel)) rfl ?_
  refine pg_0_81 rfl ?_
  refine pg_0_83 (a := (7, 1, 0)) (en_a (by decide +kernel)) (en_k (by decide +kernel)) ?_
  show xm_G (en 6 L) (d + 2) true 0 86 [some (xm_r (0, 0, 0)), some (xm_i x), some (xm_i k), some (xm_i (6 : Int32)), some (xm_i (1 : Int32))] [xm_r (7, 1, 0), xm_i (1 : Int32), xm_r (6, 0, 0)] ((37, 190), (cf_43_6_0 (xm_up fi (1, 0, 0) 0 (if k < (1 : Int32) then (3 : Int32) else (if (8 : Int32) < k then (3 : Int32) else k)))), (xm_up fl (1, 0, 0) 2 65536), (xm_up (cr_43_6_0 (xm_up (xm_up (cr_36_6_0 (xm_up r (0, 0, 0) 0 (some (1, 0, 0)))) (0, 0, 0) 1 (some (2, 0, 0))) (0, 0, 0) 2 (some (6, 0, 0)))) (6, 0, 0) 0 (some (7, 0, 0)))) R
  refine pg_0_86 rfl ?_
  refine pg_0_87 rfl ?_
  refine pg_0_89 rfl ?_
  refine pg_0_90 (Nat.le_of_ble_eq_true rfl) (ct_43_6_1) ?_
  show xm_G (en 6 L) (d + 2) true 0 93 [some (xm_r (0, 0, 0)), some (xm_i x), some (xm_i k), some (xm_i (6 : Int32)), some (xm_i (1 : Int32))] [xm_r (7, 1, 0), xm_i (1 : Int32), xm_r (6, 0, 0)] ((65, 306), (cf_43_6_1 (cf_43_6_0 (xm_up fi (1, 0, 0) 0 (if k < (1 : Int32) then (3 : Int32) else (if (8 : Int32) < k then (3 : Int32) else k))))), (xm_up fl (1, 0, 0) 2 65536), (cr_43_6_1 (xm_up (cr_43_6_0 (xm_up (xm_up (cr_36_6_0 (xm_up r (0, 0, 0) 0 (some (1, 0, 0)))) (0, 0, 0) 1 (some (2, 0, 0))) (0, 0, 0) 2 (some (6, 0, 0)))) (6, 0, 0) 0 (some (7, 0, 0))))) R
  refine pg_0_93 (en_ok (t := 3) (s := 0) (by decide +kernel)) (by decide) (by decide) (en_ok (s := 6) (by decide +kernel)) (i := 1) (rfl : (1 : Int32) = nI 1) (by decide) (by decide) ?_
  refine pg_0_94 (y := (2 : Int32)) (lv' := [some (xm_r (0, 0, 0)), some (xm_i x), some (xm_i k), some (xm_i (6 : Int32)), some (xm_i (2 : Int32))]) rfl (by decide) rfl ?_
  refine pg_0_97 ?_
  refine pg_0_71 rfl ?_
  refine pg_0_73 rfl ?_
  refine pg_0_74 (fun hc => absurd hc (by decide)) (fun _ => ?_)
  refine pg_0_77 rfl ?_
  refine pg_0_78 (en_ok (by decide +kernel)) rfl ?_
  refine pg_0_81 rfl ?_
  refine pg_0_83 (a := (7, 2, 0)) (en_a (by decide +kernel)) (en_k (by decide +kernel)) ?_
  show xm_G (en 6 L) (d + 2) true 0 86 [some (xm_r (0, 0, 0)), some (xm_i x), some (xm_i k), some (xm_i (6 : Int32)), some (xm_i (2 : Int32))] [xm_r (7, 2, 0), xm_i (2 : Int32), xm_r (6, 0, 0)] ((66, 319), (cf_43_6_1 (cf_43_6_0 (xm_up fi (1, 0, 0) 0 (if k < (1 : Int32) then (3 : Int32) else (if (8 : Int32) < k then (3 : Int32) else k))))), (xm_up fl (1, 0, 0) 2 65536), (xm_up (cr_43_6_1 (xm_up (cr_43_6_0 (xm_up (xm_up (cr_36_6_0 (xm_up r (0, 0, 0) 0 (some (1, 0, 0)))) (0, 0, 0) 1 (some (2, 0, 0))) (0, 0, 0) 2 (some (6, 0, 0)))) (6, 0, 0) 0 (some (7, 0, 0)))) (6, 0, 0) 1 (some (7, 1, 0)))) R
  refine pg_0_86 rfl ?_
  refine pg_0_87 rfl ?_
  refine pg_0_89 rfl ?_
  refine pg_0_90 (Nat.le_of_ble_eq_true rfl) (ct_43_6_2) ?_
  show xm_G (en 6 L) (d + 2) true 0 93 [some (xm_r (0, 0, 0)), some (xm_i x), some (xm_i k), some (xm_i (6 : Int32)), some (xm_i (2 : Int32))] [xm_r (7, 2, 0), xm_i (2 : Int32), xm_r (6, 0, 0)] ((94, 435), (cf_43_6_2 (cf_43_6_1 (cf_43_6_0 (xm_up fi (1, 0, 0) 0 (if k < (1 : Int32) then (3 : Int32) else (if (8 : Int32) < k then (3 : Int32) else k)))))), (xm_up fl (1, 0, 0) 2 65536), (cr_43_6_2 (xm_up (cr_43_6_1 (xm_up (cr_43_6_0 (xm_up (xm_up (cr_36_6_0 (xm_up r (0, 0, 0) 0 (some (1, 0, 0)))) (0, 0, 0) 1 (some (2, 0, 0))) (0, 0, 0) 2 (some (6, 0, 0)))) (6, 0, 0) 0 (some (7, 0, 0)))) (6, 0, 0) 1 (some (7, 1, 0))))) R
  refine pg_0_93 (en_ok (t := 3) (s := 0) (by decide +kernel)) (by decide) (by decide) (en_ok (s := 6) (by decide +kernel)) (i := 2) (rfl : (2 : Int32) = nI 2) (by decide) (by decide) ?_
  refine pg_0_94 (y := (3 : Int32)) (lv' := [some (xm_r (0, 0, 0)), some (xm_i x), some (xm_i k), some (xm_i (6 : Int32)), some (xm_i (3 : Int32))]) rfl (by decide) rfl ?_
  refine pg_0_97 ?_
  refine pg_0_71 rfl ?_
  refine pg_0_73 rfl ?_
  refine pg_0_74 (fun hc => absurd hc (by decide)) (fun _ => ?_)
  refine pg_0_77 rfl ?_
  refine pg_0_78 (en_ok (by decide +kernel)) rfl ?_
  refine pg_0_81 rfl ?_
  refine pg_0_83 (a := (7, 3, 0)) (en_a (by decide +kernel)) (en_k (by decide +kernel)) ?_
  show xm_G (en 6 L) (d + 2) true 0 86 [some (xm_r (0, 0, 0)), some (xm_i x), some (xm_i k), some (xm_i (6 : Int32)), some (xm_i (3 : Int32))] [xm_r (7, 3, 0), xm_i (3 : Int32), xm_r (6, 0, 0)] ((95, 448), (cf_43_6_2 (cf_43_6_1 (cf_43_6_0 (xm_up fi (1, 0, 0) 0 (if k < (1 : Int32) then (3 : Int32) else (if (8 : Int32) < k then (3 : Int32) else k)))))), (xm_up fl (1, 0, 0) 2 65536), (xm_up (cr_43_6_2 (xm_up (cr_43_6_1 (xm_up (cr_43_6_0 (xm_up (xm_up (cr_36_6_0 (xm_up r (0, 0, 0) 0 (some (1, 0, 0)))) (0, 0, 0) 1 (some (2, 0, 0))) (0, 0, 0) 2 (some (6, 0, 0)))) (6, 0, 0) 0 (some (7, 0, 0)))) (6, 0, 0) 1 (some (7, 1, 0)))) (6, 0, 0) 2 (some (7, 2, 0)))) R
  refine pg_0_86 rfl ?_
  refine pg_0_87 rfl ?_
  refine pg_0_89 rfl ?_
  refine pg_0_90 (Nat.le_of_ble_eq_true rfl) (ct_43_6_3) ?_
  show xm_G (en 6 L) (d + 2) true 0 93 [some (xm_r (0, 0, 0)), some (xm_i x), some (xm_i k), some (xm_i (6 : Int32)), some (xm_i (3 : Int32))] [xm_r (7, 3, 0), xm_i (3 : Int32), xm_r (6, 0, 0)] ((123, 564), (cf_43_6_3 (cf_43_6_2 (cf_43_6_1 (cf_43_6_0 (xm_up fi (1, 0, 0) 0 (if k < (1 : Int32) then (3 : Int32) else (if (8 : Int32) < k then (3 : Int32) else k))))))), (xm_up fl (1, 0, 0) 2 65536), (cr_43_6_3 (xm_up (cr_43_6_2 (xm_up (cr_43_6_1 (xm_up (cr_43_6_0 (xm_up (xm_up (cr_36_6_0 (xm_up r (0, 0, 0) 0 (some (1, 0, 0)))) (0, 0, 0) 1 (some (2, 0, 0))) (0, 0, 0) 2 (some (6, 0, 0)))) (6, 0, 0) 0 (some (7, 0, 0)))) (6, 0, 0) 1 (some (7, 1, 0)))) (6, 0, 0) 2 (some (7, 2, 0))))) R
  refine pg_0_93 (en_ok (t := 3) (s := 0) (by decide +kernel)) (by decide) (by decide) (en_ok (s := 6) (by decide +kernel)) (i := 3) (rfl : (3 : Int32) = nI 3) (by decide) (by decide) ?_
  refine pg_0_94 (y := (4 : Int32)) (lv' := [some (xm_r (0, 0, 0)), some (xm_i x), some (xm_i k), some (xm_i (6 : Int32)), some (xm_i (4 : Int32))]) rfl (by decide) rfl ?_
  refine pg_0_97 ?_
  refine pg_0_71 rfl ?_
  refine pg_0_73 rfl ?_
  refine pg_0_74 (fun hc => absurd hc (by decide)) (fun _ => ?_)
  refine pg_0_77 rfl ?_
  refine pg_0_78 (en_ok (by decide +kernel)) rfl ?_
  refine pg_0_81 rfl ?_
  refine pg_0_83 (a := (7, 4, 0)) (en_a (by decide +kernel)) (en_k (by decide +kernel)) ?_
  show xm_G (en 6 L) (d + 2) true 0 86 [some (xm_r (0, 0, 0)), some (xm_i x), some (xm_i k), some (xm_i (6 : Int32)), some (xm_i (4 : Int32))] [xm_r (7, 4, 0), xm_i (4 : Int32), xm_r (6, 0, 0)] ((124, 577), (cf_43_6_3 (cf_43_6_2 (cf_43_6_1 (cf_43_6_0 (xm_up fi (1, 0, 0) 0 (if k < (1 : Int32) then (3 : Int32) else (if (8 : Int32) < k then (3 : Int32) else k))))))), (xm_up fl (1, 0, 0) 2 65536), (xm_up (cr_43_6_3 (xm_up (cr_43_6_2 (xm_up (cr_43_6_1 (xm_up (cr_43_6_0 (xm_up (xm_up (cr_36_6_0 (xm_up r (0, 0, 0) 0 (some (1, 0, 0)))) (0, 0, 0) 1 (some (2, 0, 0))) (0, 0, 0) 2 (some (6, 0, 0)))) (6, 0, 0) 0 (some (7, 0, 0)))) (6, 0, 0) 1 (some (7, 1, 0)))) (6, 0, 0) 2 (some (7, 2, 0)))) (6, 0, 0) 3 (some (7, 3, 0)))) R
  refine pg_0_86 rfl ?_
  refine pg_0_87 rfl ?_
  refine pg_0_89 rfl ?_
  refine pg_0_90 (Nat.le_of_ble_eq_true rfl) (ct_43_6_4) ?_
  show xm_G (en 6 L) (d + 2) true 0 93 [some (xm_r (0, 0, 0)), some (xm_i x), some (xm_i k), some (xm_i (6 : Int32)), some (xm_i (4 : Int32))] [xm_r (7, 4, 0), xm_i (4 : Int32), xm_r (6, 0, 0)] ((152, 693), (cf_43_6_4 (cf_43_6_3 (cf_43_6_2 (cf_43_6_1 (cf_43_6_0 (xm_up fi (1, 0, 0) 0 (if k < (1 : Int32) then (3 : Int32) else (if (8 : Int32) < k then (3 : Int32) else k)))))))), (xm_up fl (1, 0, 0) 2 65536), (cr_43_6_4 (xm_up (cr_43_6_3 (xm_up (cr_43_6_2 (xm_up (cr_43_6_1 (xm_up (cr_43_6_0 (xm_up (xm_up (cr_36_6_0 (xm_up r (0, 0, 0) 0 (some (1, 0, 0)))) (0, 0, 0) 1 (some (2, 0, 0))) (0, 0, 0) 2 (some (6, 0, 0)))) (6, 0, 0) 0 (some (7, 0, 0)))) (6, 0, 0) 1 (some (7, 1, 0)))) (6, 0, 0) 2 (some (7, 2, 0)))) (6, 0, 0) 3 (some (7, 3, 0))))) R
  refine pg_0_93 (en_ok (t := 3) (s := 0) (by decide +kernel)) (by decide) (by decide) (en_ok (s := 6) (by decide +kernel)) (i := 4) (rfl : (4 : Int32) = nI 4) (by decide) (by decide) ?_
  refine pg_0_94 (y := (5 : Int32)) (lv' := [some (xm_r (0, 0, 0)), some (xm_i x), some (xm_i k), some (xm_i (6 : Int32)), some (xm_i (5 : Int32))]) rfl (by decide) rfl ?_
  refine pg_0_97 ?_
  refine pg_0_71 rfl ?_
  refine pg_0_73 rfl ?_
  refine pg_0_74 (fun hc => absurd hc (by decide)) (fun _ => ?_)
  refine pg_0_77 rfl ?_
  refine pg_0_78 (en_ok (by decide +kernel)) rfl ?_
  refine pg_0_81 rfl ?_
  refine pg_0_83 (a := (7, 5, 0)) (en_a (by decide +kernel)) (en_k (by decide +kernel)) ?_
  show xm_G (en 6 L) (d + 2) true 0 86 [some (xm_r (0, 0, 0)), some (xm_i x), some (xm_i k), some (xm_i (6 : Int32)), some (xm_i (5 : Int32))] [xm_r (7, 5, 0), xm_i (5 : Int32), xm_r (6, 0, 0)] ((153, 706), (cf_43_6_4 (cf_43_6_3 (cf_43_6_2 (cf_43_6_1 (cf_43_6_0 (xm_up fi (1, 0, 0) 0 (if k < (1 : Int32) then (3 : Int32) else (if (8 : Int32) < k then (3 : Int32) else k)))))))), (xm_up fl (1, 0, 0) 2 65536), (xm_up (cr_43_6_4 (xm_up (cr_43_6_3 (xm_up (cr_43_6_2 (xm_up (cr_43_6_1 (xm_up (cr_43_6_0 (xm_up (xm_up (cr_36_6_0 (xm_up r (0, 0, 0) 0 (some (1, 0, 0)))) (0, 0, 0) 1 (some (2, 0, 0))) (0, 0, 0) 2 (some (6, 0, 0)))) (6, 0, 0) 0 (some (7, 0, 0)))) (6, 0, 0) 1 (some (7, 1, 0)))) (6, 0, 0) 2 (some (7, 2, 0)))) (6, 0, 0) 3 (some (7, 3, 0)))) (6, 0, 0) 4 (some (7, 4, 0)))) R
  refine pg_0_86 rfl ?_
  refine pg_0_87 rfl ?_
  refine pg_0_89 rfl ?_
  refine pg_0_90 (Nat.le_of_ble_eq_true rfl) (ct_43_6_5) ?_
  show xm_G (en 6 L) (d + 2) true 0 93 [some (xm_r (0, 0, 0)), some (xm_i x), some (xm_i k), some (xm_i (6 : Int32)), some (xm_i (5 : Int32))] [xm_r (7, 5, 0), xm_i (5 : Int32), xm_r (6, 0, 0)] ((181, 822), (cf_43_6_5 (cf_43_6_4 (cf_43_6_3 (cf_43_6_2 (cf_43_6_1 (cf_43_6_0 (xm_up fi (1, 0, 0) 0 (if k < (1 : Int32) then (3 : Int32) else (if (8 : Int32) < k then (3 : Int32) else k))))))))), (xm_up fl (1, 0, 0) 2 65536), (cr_43_6_5 (xm_up (cr_43_6_4 (xm_up (cr_43_6_3 (xm_up (cr_43_6_2 (xm_up (cr_43_6_1 (xm_up (cr_43_6_0 (xm_up (xm_up (cr_36_6_0 (xm_up r (0, 0, 0) 0 (some (1, 0, 0)))) (0, 0, 0) 1 (some (2, 0, 0))) (0, 0, 0) 2 (some (6, 0, 0)))) (6, 0, 0) 0 (some (7, 0, 0)))) (6, 0, 0) 1 (some (7, 1, 0)))) (6, 0, 0) 2 (some (7, 2, 0)))) (6, 0, 0) 3 (some (7, 3, 0)))) (6, 0, 0) 4 (some (7, 4, 0))))) R
  refine pg_0_93 (en_ok (t := 3) (s := 0) (by decide +kernel)) (by decide) (by decide) (en_ok (s := 6) (by decide +kernel)) (i := 5) (rfl : (5 : Int32) = nI 5) (by decide) (by decide) ?_
  refine pg_0_94 (y := (6 : Int32)) (lv' := [some (xm_r (0, 0, 0)), some (xm_i x), some (xm_i k), some (xm_i (6 : Int32)), some (xm_i (6 : Int32))]) rfl (by decide) rfl ?_
  refine pg_0_97 ?_
  refine pg_0_71 rfl ?_
  refine pg_0_73 rfl ?_
  refine pg_0_74 (fun _ => ?_) (fun hc => absurd (by decide) hc)
  refine pg_0_100 rfl ?_
  refine pg_0_101 (a := (9, 6, 0)) (en_a (by decide +kernel)) (en_k (by decide +kernel)) ?_
  show xm_G (en 6 L) (d + 2) true 0 104 [some (xm_r (0, 0, 0)), some (xm_i x), some (xm_i k), some (xm_i (6 : Int32)), some (xm_i (6 : Int32))] [xm_r (9, 6, 0), xm_r (0, 0, 0)] ((182, 824), (cf_43_6_5 (cf_43_6_4 (cf_43_6_3 (cf_43_6_2 (cf_43_6_1 (cf_43_6_0 (xm_up fi (1, 0, 0) 0 (if k < (1 : Int32) then (3 : Int32) else (if (8 : Int32) < k then (3 : Int32) else k))))))))), (xm_up fl (1, 0, 0) 2 65536), (xm_up (cr_43_6_5 (xm_up (cr_43_6_4 (xm_up (cr_43_6_3 (xm_up (cr_43_6_2 (xm_up (cr_43_6_1 (xm_up (cr_43_6_0 (xm_up (xm_up (cr_36_6_0 (xm_up r (0, 0, 0) 0 (some (1, 0, 0)))) (0, 0, 0) 1 (some (2, 0, 0))) (0, 0, 0) 2 (some (6, 0, 0)))) (6, 0, 0) 0 (some (7, 0, 0)))) (6, 0, 0) 1 (some (7, 1, 0)))) (6, 0, 0) 2 (some (7, 2, 0)))) (6, 0, 0) 3 (some (7, 3, 0)))) (6, 0, 0) 4 (some (7, 4, 0)))) (6, 0, 0) 5 (some (7, 5, 0)))) R
  refine pg_0_104 rfl ?_
  refine pg_0_105 rfl ?_
  refine pg_0_106 (Nat.le_of_ble_eq_true rfl) (ct_61 (m := 6) (b := (10, 6, 0)) (rfl : (6 : Int32) = nI 6) (by decide) (en_a (by decide +kernel)) (en_k (by decide +kernel)) (en_ok (by decide +kernel))) ?_
  show xm_G (en 6 L) (d + 2) true 0 109 [some (xm_r (0, 0, 0)), some (xm_i x), some (xm_i k), some (xm_i (6 : Int32)), some (xm_i (6 : Int32))] [xm_r (9, 6, 0), xm_r (0, 0, 0)] ((183, 830), (cf_43_6_5 (cf_43_6_4 (cf_43_6_3 (cf_43_6_2 (cf_43_6_1 (cf_43_6_0 (xm_up fi (1, 0, 0) 0 (if k < (1 : Int32) then (3 : Int32) else (if (8 : Int32) < k then (3 : Int32) else k))))))))), (xm_up fl (1, 0, 0) 2 65536), (xm_up (xm_up (cr_43_6_5 (xm_up (cr_43_6_4 (xm_up (cr_43_6_3 (xm_up (cr_43_6_2 (xm_up (cr_43_6_1 (xm_up (cr_43_6_0 (xm_up (xm_up (cr_36_6_0 (xm_up r (0, 0, 0) 0 (some (1, 0, 0)))) (0, 0, 0) 1 (some (2, 0, 0))) (0, 0, 0) 2 (some (6, 0, 0)))) (6, 0, 0) 0 (some (7, 0, 0)))) (6, 0, 0) 1 (some (7, 1, 0)))) (6, 0, 0) 2 (some (7, 2, 0)))) (6, 0, 0) 3 (some (7, 3, 0)))) (6, 0, 0) 4 (some (7, 4, 0)))) (6, 0, 0) 5 (some (7, 5, 0))) (9, 6, 0) 0 (some (10, 6, 0)))) R
  refine pg_0_109 (en_ok (by decide +kernel)) ?_
  exact go_eq hR.symm (pg_0_112)
def cf_68_6_0 (fi : FI) (x : Int32) (k : Int32) : FI := (xm_up (xm_up (xm_up (xm_up (xm_up (xm_up (xm_up (xm_up (xm_up (xm_up (xm_up (xm_up (xm_up (xm_up (xm_up (xm_up (xm_up (xm_up (xm_up (xm_up (xm_up (xm_up (xm_up (xm_up (xm_up (xm_up (xm_up (xm_up (xm_up (xm_up (xm_up (xm_up (xm_up (xm_up (xm_up (xm_up (xm_up (xm_up (xm_up fi (20, 0, 0) 5 (65536 : Int32)) (20, 0, 0) 1 (6 : Int32)) (20, 0, 0) 2 (if k < (1 : Int32) then (3 : Int32) else (if k ≤ (8 : Int32) then k else (3 : Int32)))) (21, 14, 0) 0 (1 : Int32)) (21, 14, 0) 1 (1 : Int32)) (21, 14, 0) 2 (1 : Int32)) (21, 14, 0) 3 (1 : Int32)) (21, 14, 0) 4 (1 : Int32)) (21, 14, 0) 5 (1 : Int32)) (21, 14, 0) 6 (1 : Int32)) (21, 14, 0) 7 (1 : Int32)) (21, 14, 0) 8 (1 : Int32)) (21, 14, 0) 9 (1 : Int32)) (21, 14, 0) 10 (1 : Int32)) (21, 14, 0) 11 (1 : Int32)) (21, 14, 0) 12 (1 : Int32)) (21, 14, 0) 13 (1 : Int32)) (21, 14, 0) 14 (1 : Int32)) (21, 14, 0) 15 (1 : Int32)) (21, 14, 0) 16 (1 : Int32)) (21, 14, 0) 17 (1 : Int32)) (21, 14, 0) 18 (1 : Int32)) (21, 14, 0) 19 (1 : Int32)) (21, 14, 0) 20 (1 : Int32)) (21, 14, 0) 21 (1 : Int32)) (21, 14, 0) 22 (1 : Int32)) (21, 14, 0) 23 (1 : Int32)) (21, 14, 0) 24 (1 : Int32)) (21, 14, 0) 25 (1 : Int32)) (21, 14, 0) 26 (1 : Int32)) (21, 14, 0) 27 (1 : Int32)) (21, 14, 0) 28 (1 : Int32)) (21, 14, 0) 29 (1 : Int32)) (21, 14, 0) 30 (1 : Int32)) (21, 14, 0) 31 (1 : Int32)) (21, 14, 0) 32 (1 : Int32)) (21, 14, 0) 33 (1 : Int32)) (21, 14, 0) 34 (1 : Int32)) (21, 14, 0) 35 (1 : Int32))
def cr_68_6_0 (r : xm_I → Nat → Option xm_I) : xm_I → Nat → Option xm_I := (xm_up (xm_up (xm_up (xm_up (xm_up (xm_up (xm_up (xm_up (xm_up (xm_up (xm_up (xm_up (xm_up (xm_up (xm_up (xm_up (xm_up (xm_up (xm_up (xm_up (xm_up (xm_up (xm_up (xm_up (xm_up r (20, 0, 0) 8 (some (21, 8, 0))) (20, 0, 0) 9 (some (21, 9, 0))) (20, 0, 0) 10 (some (21, 10, 0))) (20, 0, 0) 11 (some (21, 11, 0))) (20, 0, 0) 12 (some (21, 12, 0))) (20, 0, 0) 13 (some (21, 13, 0))) (20, 0, 0) 14 (some (21, 14, 0))) (20, 0, 0) 15 (some (21, 15, 0))) (20, 0, 0) 16 (some (21, 16, 0))) (20, 0, 0) 17 (some (21, 17, 0))) (20, 0, 0) 18 (some (21, 18, 0))) (20, 0, 0) 19 (some (21, 19, 0))) (20, 0, 0) 20 (some (21, 20, 0))) (20, 0, 0) 24 (some (21, 24, 0))) (20, 0, 0) 27 (some (21, 27, 0))) (20, 0, 0) 28 (some (21, 28, 0))) (20, 0, 0) 29 (some (21, 29, 0))) (20, 0, 0) 30 (some (21, 30, 0))) (20, 0, 0) 31 (some (21, 31, 0))) (20, 0, 0) 32 (some (21, 32, 0))) (20, 0, 0) 33 (some (21, 33, 0))) (20, 0, 0) 34 (some (21, 34, 0))) (20, 0, 0) 35 (some (21, 35, 0))) (20, 0, 0) 37 (some (21, 37, 0))) (20, 0, 0) 38 (some (21, 38, 0)))
set_option maxRecDepth 8000 in
theorem ct_68_6_0 {L : Nat} {fi : FI} {fl : FL} {r : xm_I → Nat → Option xm_I} {d : Nat} {x : Int32} {k : Int32} (hM : (if x < (4 : Int32) then (4 : Int32) else (if x ≤ (6 : Int32) then x else (4 : Int32))) = (6 : Int32)) : xm_C (en 6 L) (d + 2) true 68 [xm_r (20, 0, 0), xm_i x, xm_i k] ((184, 870), fi, fl, r) (.inl none, ((209, 1915), cf_68_6_0 fi x k, fl, cr_68_6_0 r)) := by
  suffices key : ∀ (E : xm_E) (R : xm_O), E = en 6 L → ((.inl none, ((209, 1915), cf_68_6_0 fi x k, fl, cr_68_6_0 r)) : xm_O) = R → xm_G (en 6 L) (d + 1) true 68 0 [some (xm_r (20, 0, 0)), some (xm_i x), some (xm_i k), none] [] ((184, 870), fi, fl, r) R from go_inr (by decide) (Nat.le_of_ble_eq_true rfl) (key _ _ rfl rfl)
  intro E R hE hR
  refine pg_68_0 rfl ?_
  refine pg_68_1 (Nat.le_of_ble_eq_true rfl) ?_
  refine pg_68_4 rfl ?_
  refine pg_68_5 ?_
  refine pg_68_7 (en_ok (by decide +kernel)) ?_
  refine pg_68_10 rfl ?_
  refine pg_68_11 ?_
  refine pg_68_13 (n := 6) (rfl : (6 : Int32) = nI 6) (by decide) (en_a (a := (21, 8, 0)) (by decide +kernel)) (en_k (by decide +kernel)) ?_
  show xm_G (en 6 L) (d + 1) true 68 15 [some (xm_r (20, 0, 0)), some (xm_i x), some (xm_i k), none] [xm_r (21, 8, 0), xm_r (20, 0, 0)] ((185, 876), (xm_up fi (20, 0, 0) 5 (65536 : Int32)), fl, r) R
  refine pg_68_15 (en_ok (by decide +kernel)) ?_
  refine pg_68_18 rfl ?_
  refine pg_68_19 ?_
  refine pg_68_21 (n := 6) (rfl : (6 : Int32) = nI 6) (by decide) (en_a (a := (21, 9, 0)) (by decide +kernel)) (en_k (by decide +kernel)) ?_
  show xm_G (en 6 L) (d + 1) true 68 23 [some (xm_r (20, 0, 0)), some (xm_i x), some (xm_i k), none] [xm_r (21, 9, 0), xm_r (20, 0, 0)] ((186, 882), (xm_up fi (20, 0, 0) 5 (65536 : Int32)), fl, (xm_up r (20, 0, 0) 8 (some (21, 8, 0)))) R
  refine pg_68_23 (en_ok (by decide +kernel)) ?_
  refine pg_68_26 rfl ?_
  refine pg_68_27 ?_
  refine pg_68_29 (n := 6) (rfl : (6 : Int32) = nI 6) (by decide) (en_a (a := (21, 10, 0)) (by decide +kernel)) (en_k (by decide +kernel)) ?_
  show xm_G (en 6 L) (d + 1) true 68 31 [some (xm_r (20, 0, 0)), some (xm_i x), some (xm_i k), none] [xm_r (21, 10, 0), xm_r (20, 0, 0)] ((187, 888), (xm_up fi (20, 0, 0) 5 (65536 : Int32)), fl, (xm_up (xm_up r (20, 0, 0) 8 (some (21, 8, 0))) (20, 0, 0) 9 (some (21, 9, 0)))) R
  refine pg_68_31 (en_ok (by decide +kernel)) ?_
  refine pg_68_34 rfl ?_
  refine pg_68_35 ?_
  refine pg_68_37 (n := 6) (rfl : (6 : Int32) = nI 6) (by decide) (en_a (a := (21, 11, 0)) (by decide +kernel)) (en_k (by decide +kernel)) ?_
  show xm_G (en 6 L) (d + 1) true 68 39 [some (xm_r (20, 0, 0)), some (xm_i x), some (xm_i k), none] [xm_r (21, 11, 0), xm_r (20, 0, 0)] ((188, 894), (xm_up fi (20, 0, 0) 5 (65536 : Int32)), fl, (xm_up (xm_up (xm_up r (20, 0, 0) 8 (some (21, 8, 0))) (20, 0, 0) 9 (some (21, 9, 0))) (20, 0, 0) 10 (some (21, 10, 0)))) R
  refine pg_68_39 (en_ok (by decide +kernel)) ?_
  refine pg_68_42 rfl ?_
  refine pg_68_43 ?_
  refine pg_68_45 (n := 6) (rfl : (6 : Int32) = nI 6) (by decide) (en_a (a := (21, 12, 0)) (by decide +kernel)) (en_k (by decide +kernel)) ?_
  show xm_G (en 6 L) (d + 1) true 68 47 [some (xm_r (20, 0, 0)), some (xm_i x), some (xm_i k), none] [xm_r (21, 12, 0), xm_r (20, 0, 0)] ((189, 900), (xm_up fi (20, 0, 0) 5 (65536 : Int32)), fl, (xm_up (xm_up (xm_up (xm_up r (20, 0, 0) 8 (some (21, 8, 0))) (20, 0, 0) 9 (some (21, 9, 0))) (20, 0, 0) 10 (some (21, 10, 0))) (20, 0, 0) 11 (some (21, 11, 0)))) R
  refine pg_68_47 (en_ok (by decide +kernel)) ?_
  refine pg_68_50 rfl ?_
  refine pg_68_51 ?_
  refine pg_68_53 (n := 6) (rfl : (6 : Int32) = nI 6) (by decide) (en_a (a := (21, 13, 0)) (by decide +kernel)) (en_k (by decide +kernel)) ?_
  show xm_G (en 6 L) (d + 1) true 68 55 [some (xm_r (20, 0, 0)), some (xm_i x), some (xm_i k), none] [xm_r (21, 13, 0), xm_r (20, 0, 0)] ((190, 906), (xm_up fi (20, 0, 0) 5 (65536 : Int32)), fl, (xm_up (xm_up (xm_up (xm_up (xm_up r (20, 0, 0) 8 (some (21, 8, 0))) (20, 0, 0) 9 (some (21, 9, 0))) (20, 0, 0) 10 (some (21, 10, 0))) (20, 0, 0) 11 (some (21, 11, 0))) (20, 0, 0) 12 (some (21, 12, 0)))) R
  refine pg_68_55 (en_ok (by decide +kernel)) ?_
  refine pg_68_58 rfl ?_
  refine pg_68_59 ?_
  refine pg_68_61 (n := 36) (rfl : (36 : Int32) = nI 36) (by decide) (en_a (a := (21, 14, 0)) (by decide +kernel)) (en_k (by decide +kernel)) ?_
  show xm_G (en 6 L) (d + 1) true 68 63 [some (xm_r (20, 0, 0)), some (xm_i x), some (xm_i k), none] [xm_r (21, 14, 0), xm_r (20, 0, 0)] ((191, 942), (xm_up fi (20, 0, 0) 5 (65536 : Int32)), fl, (xm_up (xm_up (xm_up (xm_up (xm_up (xm_up r (20, 0, 0) 8 (some (21, 8, 0))) (20, 0, 0) 9 (some (21, 9, 0))) (20, 0, 0) 10 (some (21, 10, 0))) (20, 0, 0) 11 (some (21, 11, 0))) (20, 0, 0) 12 (some (21, 12, 0))) (20, 0, 0) 13 (some (21, 13, 0)))) R
  refine pg_68_63 (en_ok (by decide +kernel)) ?_
  refine pg_68_66 rfl ?_
  refine pg_68_67 ?_
  refine pg_68_69 (n := 36) (rfl : (36 : Int32) = nI 36) (by decide) (en_a (a := (21, 15, 0)) (by decide +kernel)) (en_k (by decide +kernel)) ?_
  show xm_G (en 6 L) (d + 1) true 68 71 [some (xm_r (20, 0, 0)), some (xm_i x), some (xm_i k), none] [xm_r (21, 15, 0), xm_r (20, 0, 0)] ((192, 978), (xm_up fi (20, 0, 0) 5 (65536 : Int32)), fl, (xm_up (xm_up (xm_up (xm_up (xm_up (xm_up (xm_up r (20, 0, 0) 8 (some (21, 8, 0))) (20, 0, 0) 9 (some (21, 9, 0))) (20, 0, 0) 10 (some (21, 10, 0))) (20, 0, 0) 11 (some (21, 11, 0))) (20, 0, 0) 12 (some (21, 12, 0))) (20, 0, 0) 13 (some (21, 13, 0))) (20, 0, 0) 14 (some (21, 14, 0)))) R
  refine pg_68_71 (en_ok (by decide +kernel)) ?_
  refine pg_68_74 rfl ?_
  refine pg_68_75 ?_
  refine pg_68_77 (n := 36) (rfl : (36 : Int32) = nI 36) (by decide) (en_a (a := (21, 16, 0)) (by decide +kernel)) (en_k (by decide +kernel)) ?_
  show xm_G (en 6 L) (d + 1) true 68 79 [some (xm_r (20, 0, 0)), some (xm_i x), some (xm_i k), none] [xm_r (21, 16, 0), xm_r (20, 0, 0)] ((193, 1014), (xm_up fi (20, 0, 0) 5 (65536 : Int32)), fl, (xm_up (xm_up (xm_up (xm_up (xm_up (xm_up (xm_up (xm_up r (20, 0, 0) 8 (some (21, 8, 0))) (20, 0, 0) 9 (some (21, 9, 0))) (20, 0, 0) 10 (some (21, 10, 0))) (20, 0, 0) 11 (some (21, 11, 0))) (20, 0, 0) 12 (some (21, 12, 0))) (20, 0, 0) 13 (some (21, 13, 0))) (20, 0, 0) 14 (some (21, 14, 0))) (20, 0, 0) 15 (some (21, 15, 0)))) R
  refine pg_68_79 (en_ok (by decide +kernel)) ?_
  refine pg_68_82 rfl ?_
  refine pg_68_83 ?_
  refine pg_68_85 (n := 36) (rfl : (36 : Int32) = nI 36) (by decide) (en_a (a := (21, 17, 0)) (by decide +kernel)) (en_k (by decide +kernel)) ?_
  show xm_G (en 6 L) (d + 1) true 68 87 [some (xm_r (20, 0, 0)), some (xm_i x), some (xm_i k), none] [xm_r (21, 17, 0), xm_r (20, 0, 0)] ((194, 1050), (xm_up fi (20, 0, 0) 5 (65536 : Int32)), fl, (xm_up (xm_up (xm_up (xm_up (xm_up (xm_up (xm_up (xm_up (xm_up r (20, 0, 0) 8 (some (21, 8, 0))) (20, 0, 0) 9 (some (21, 9, 0))) (20, 0, 0) 10 (some (21, 10, 0))) (20, 0, 0) 11 (some (21, 11, 0))) (20, 0, 0) 12 (some (21, 12, 0))) (20, 0, 0) 13 (some (21, 13, 0))) (20, 0, 0) 14 (some (21, 14, 0))) (20, 0, 0) 15 (some (21, 15, 0))) (20, 0, 0) 16 (some (21, 16, 0)))) R
  refine pg_68_87 (en_ok (by decide +kernel)) ?_
  refine pg_68_90 rfl ?_
  refine pg_68_91 ?_
  refine pg_68_93 (n := 6) (rfl : (6 : Int32) = nI 6) (by decide) (en_a (a := (21, 18, 0)) (by decide +kernel)) (en_k (by decide +kernel)) ?_
  show xm_G (en 6 L) (d + 1) true 68 95 [some (xm_r (20, 0, 0)), some (xm_i x), some (xm_i k), none] [xm_r (21, 18, 0), xm_r (20, 0, 0)] ((195, 1056), (xm_up fi (20, 0, 0) 5 (65536 : Int32)), fl, (xm_up (xm_up (xm_up (xm_up (xm_up (xm_up (xm_up (xm_up (xm_up (xm_up r (20, 0, 0) 8 (some (21, 8, 0))) (20, 0, 0) 9 (some (21, 9, 0))) (20, 0, 0) 10 (some (21, 10, 0))) (20, 0, 0) 11 (some (21, 11, 0))) (20, 0, 0) 12 (some (21, 12, 0))) (20, 0, 0) 13 (some (21, 13, 0))) (20, 0, 0) 14 (some (21, 14, 0))) (20, 0, 0) 15 (some (21, 15, 0))) (20, 0, 0) 16 (some (21, 16, 0))) (20, 0, 0) 17 (some (21, 17, 0)))) R
  refine pg_68_95 (en_ok (by decide +kernel)) ?_
  refine pg_68_98 rfl ?_
  refine pg_68_99 ?_
  refine pg_68_101 (n := 6) (rfl : (6 : Int32) = nI 6) (by decide) (en_a (a := (21, 19, 0)) (by decide +kernel)) (en_k (by decide +kernel)) ?_
  show xm_G (en 6 L) (d + 1) true 68 103 [some (xm_r (20, 0, 0)), some (xm_i x), some (xm_i k), none] [xm_r (21, 19, 0), xm_r (20, 0, 0)] ((196, 1062), (xm_up fi (20, 0, 0) 5 (65536 : Int32)), fl, (xm_up (xm_up (xm_up (xm_up (xm_up (xm_up (xm_up (xm_up (xm_up (xm_up (xm_up r (20, 0, 0) 8 (some (21, 8, 0))) (20, 0, 0) 9 (some (21, 9, 0))) (20, 0, 0) 10 (some (21, 10, 0))) (20, 0, 0) 11 (some (21, 11, 0))) (20, 0, 0) 12 (some (21, 12, 0))) (20, 0, 0) 13 (some (21, 13, 0))) (20, 0, 0) 14 (some (21, 14, 0))) (20, 0, 0) 15 (some (21, 15, 0))) (20, 0, 0) 16 (some (21, 16, 0))) (20, 0, 0) 17 (some (21, 17, 0))) (20, 0, 0) 18 (some (21, 18, 0)))) R
  refine pg_68_103 (en_ok (by decide +kernel)) ?_
  refine pg_68_106 rfl ?_
  refine pg_68_107 ?_
  refine pg_68_109 (n := 6) (rfl : (6 : Int32) = nI 6) (by decide) (en_a (a := (21, 20, 0)) (by decide +kernel)) (en_k (by decide +kernel)) ?_
  show xm_G (en 6 L) (d + 1) true 68 111 [some (xm_r (20, 0, 0)), some (xm_i x), some (xm_i k), none] [xm_r (21, 20, 0), xm_r (20, 0, 0)] ((197, 1068), (xm_up fi (20, 0, 0) 5 (65536 : Int32)), fl, (xm_up (xm_up (xm_up (xm_up (xm_up (xm_up (xm_up (xm_up (xm_up (xm_up (xm_up (xm_up r (20, 0, 0) 8 (some (21, 8, 0))) (20, 0, 0) 9 (some (21, 9, 0))) (20, 0, 0) 10 (some (21, 10, 0))) (20, 0, 0) 11 (some (21, 11, 0))) (20, 0, 0) 12 (some (21, 12, 0))) (20, 0, 0) 13 (some (21, 13, 0))) (20, 0, 0) 14 (some (21, 14, 0))) (20, 0, 0) 15 (some (21, 15, 0))) (20, 0, 0) 16 (some (21, 16, 0))) (20, 0, 0) 17 (some (21, 17, 0))) (20, 0, 0) 18 (some (21, 18, 0))) (20, 0, 0) 19 (some (21, 19, 0)))) R
  refine pg_68_111 (en_ok (by decide +kernel)) ?_
  refine pg_68_114 rfl ?_
  refine pg_68_115 ?_
  refine pg_68_117 (n := 7) (rfl : (7 : Int32) = nI 7) (by decide) (en_a (a := (21, 24, 0)) (by decide +kernel)) (en_k (by decide +kernel)) ?_
  show xm_G (en 6 L) (d + 1) true 68 119 [some (xm_r (20, 0, 0)), some (xm_i x), some (xm_i k), none] [xm_r (21, 24, 0), xm_r (20, 0, 0)] ((198, 1075), (xm_up fi (20, 0, 0) 5 (65536 : Int32)), fl, (xm_up (xm_up (xm_up (xm_up (xm_up (xm_up (xm_up (xm_up (xm_up (xm_up (xm_up (xm_up (xm_up r (20, 0, 0) 8 (some (21, 8, 0))) (20, 0, 0) 9 (some (21, 9, 0))) (20, 0, 0) 10 (some (21, 10, 0))) (20, 0, 0) 11 (some (21, 11, 0))) (20, 0, 0) 12 (some (21, 12, 0))) (20, 0, 0) 13 (some (21, 13, 0))) (20, 0, 0) 14 (some (21, 14, 0))) (20, 0, 0) 15 (some (21, 15, 0))) (20, 0, 0) 16 (some (21, 16, 0))) (20, 0, 0) 17 (some (21, 17, 0))) (20, 0, 0) 18 (some (21, 18, 0))) (20, 0, 0) 19 (some (21, 19, 0))) (20, 0, 0) 20 (some (21, 20, 0)))) R
  refine pg_68_119 (en_ok (by decide +kernel)) ?_
  refine pg_68_122 rfl ?_
  refine pg_68_123 ?_
  refine pg_68_125 (n := 36) (rfl : (36 : Int32) = nI 36) (by decide) (en_a (a := (21, 27, 0)) (by decide +kernel)) (en_k (by decide +kernel)) ?_
  show xm_G (en 6 L) (d + 1) true 68 127 [some (xm_r (20, 0, 0)), some (xm_i x), some (xm_i k), none] [xm_r (21, 27, 0), xm_r (20, 0, 0)] ((199, 1111), (xm_up fi (20, 0, 0) 5 (65536 : Int32)), fl, (xm_up (xm_up (xm_up (xm_up (xm_up (xm_up (xm_up (xm_up (xm_up (xm_up (xm_up (xm_up (xm_up (xm_up r (20, 0, 0) 8 (some (21, 8, 0))) (20, 0, 0) 9 (some (21, 9, 0))) (20, 0, 0) 10 (some (21, 10, 0))) (20, 0, 0) 11 (some (21, 11, 0))) (20, 0, 0) 12 (some (21, 12, 0))) (20, 0, 0) 13 (some (21, 13, 0))) (20, 0, 0) 14 (some (21, 14, 0))) (20, 0, 0) 15 (some (21, 15, 0))) (20, 0, 0) 16 (some (21, 16, 0))) (20, 0, 0) 17 (some (21, 17, 0))) (20, 0, 0) 18 (some (21, 18, 0))) (20, 0, 0) 19 (some (21, 19, 0))) (20, 0, 0) 20 (some (21, 20, 0))) (20, 0, 0) 24 (some (21, 24, 0)))) R
  refine pg_68_127 (en_ok (by decide +kernel)) ?_
  refine pg_68_130 rfl ?_
  refine pg_68_131 ?_
  refine pg_68_133 (n := 36) (rfl : (36 : Int32) = nI 36) (by decide) (en_a (a := (21, 28, 0)) (by decide +kernel)) (en_k (by decide +kernel)) ?_
  show xm_G (en 6 L) (d + 1) true 68 135 [some (xm_r (20, 0, 0)), some (xm_i x), some (xm_i k), none] [xm_r (21, 28, 0), xm_r (20, 0, 0)] ((200, 1147), (xm_up fi (20, 0, 0) 5 (65536 : Int32)), fl, (xm_up (xm_up (xm_up (xm_up (xm_up (xm_up (xm_up (xm_up (xm_up (xm_up (xm_up (xm_up (xm_up (xm_up (xm_up r (20, 0, 0) 8 (some (21, 8, 0))) (20, 0, 0) 9 (some (21, 9, 0))) (20, 0, 0) 10 (some (21, 10, 0))) (20, 0, 0) 11 (some (21, 11, 0))) (20, 0, 0) 12 (some (21, 12, 0))) (20, 0, 0) 13 (some (21, 13, 0))) (20, 0, 0) 14 (some (21, 14, 0))) (20, 0, 0) 15 (some (21, 15, 0))) (20, 0, 0) 16 (some (21, 16, 0))) (20, 0, 0) 17 (some (21, 17, 0))) (20, 0, 0) 18 (some (21, 18, 0))) (20, 0, 0) 19 (some (21, 19, 0))) (20, 0, 0) 20 (some (21, 20, 0))) (20, 0, 0) 24 (some (21, 24, 0))) (20, 0, 0) 27 (some (21, 27, 0)))) R
  refine pg_68_135 (en_ok (by decide +kernel)) ?_
  refine pg_68_138 rfl ?_
  refine pg_68_139 ?_
  refine pg_68_142 (n := 216) (rfl : (216 : Int32) = nI 216) (by decide) (en_a (a := (21, 29, 0)) (by decide +kernel)) (en_k (by decide +kernel)) ?_
  show xm_G (en 6 L) (d + 1) true 68 144 [some (xm_r (20, 0, 0)), some (xm_i x), some (xm_i k), none] [xm_r (21, 29, 0), xm_r (20, 0, 0)] ((201, 1363), (xm_up fi (20, 0, 0) 5 (65536 : Int32)), fl, (xm_up (xm_up (xm_up (xm_up (xm_up (xm_up (xm_up (xm_up (xm_up (xm_up (xm_up (xm_up (xm_up (xm_up (xm_up (xm_up r (20, 0, 0) 8 (some (21, 8, 0))) (20, 0, 0) 9 (some (21, 9, 0))) (20, 0, 0) 10 (some (21, 10, 0))) (20, 0, 0) 11 (some (21, 11, 0))) (20, 0, 0) 12 (some (21, 12, 0))) (20, 0, 0) 13 (some (21, 13, 0))) (20, 0, 0) 14 (some (21, 14, 0))) (20, 0, 0) 15 (some (21, 15, 0))) (20, 0, 0) 16 (some (21, 16, 0))) (20, 0, 0) 17 (some (21, 17, 0))) (20, 0, 0) 18 (some (21, 18, 0))) (20, 0, 0) 19 (some (21, 19, 0))) (20, 0, 0) 20 (some (21, 20, 0))) (20, 0, 0) 24 (some (21, 24, 0))) (20, 0, 0) 27 (some (21, 27, 0))) (20, 0, 0) 28 (some (21, 28, 0)))) R
  refine pg_68_144 (en_ok (by decide +kernel)) ?_
  refine pg_68_147 rfl ?_
  refine pg_68_148 ?_
  refine pg_68_151 (n := 216) (rfl : (216 : Int32) = nI 216) (by decide) (en_a (a := (21, 30, 0)) (by decide +kernel)) (en_k (by decide +kernel)) ?_
  show xm_G (en 6 L) (d + 1) true 68 153 [some (xm_r (20, 0, 0)), some (xm_i x), some (xm_i k), none] [xm_r (21, 30, 0), xm_r (20, 0, 0)] ((202, 1579), (xm_up fi (20, 0, 0) 5 (65536 : Int32)), fl, (xm_up (xm_up (xm_up (xm_up (xm_up (xm_up (xm_up (xm_up (xm_up (xm_up (xm_up (xm_up (xm_up (xm_up (xm_up (xm_up (xm_up r (20, 0, 0) 8 (some (21, 8, 0))) (20, 0, 0) 9 (some (21, 9, 0))) (20, 0, 0) 10 (some (21, 10, 0))) (20, 0, 0) 11 (some (21, 11, 0))) (20, 0, 0) 12 (some (21, 12, 0))) (20, 0, 0) 13 (some (21, 13, 0))) (20, 0, 0) 14 (some (21, 14, 0))) (20, 0, 0) 15 (some (21, 15, 0))) (20, 0, 0) 16 (some (21, 16, 0))) (20, 0, 0) 17 (some (21, 17, 0))) (20, 0, 0) 18 (some (21, 18, 0))) (20, 0, 0) 19 (some (21, 19, 0))) (20, 0, 0) 20 (some (21, 20, 0))) (20, 0, 0) 24 (some (21, 24, 0))) (20, 0, 0) 27 (some (21, 27, 0))) (20, 0, 0) 28 (some (21, 28, 0))) (20, 0, 0) 29 (some (21, 29, 0)))) R
  refine pg_68_153 (en_ok (by decide +kernel)) ?_
  refine pg_68_156 rfl ?_
  refine pg_68_157 ?_
  refine pg_68_159 (n := 6) (rfl : (6 : Int32) = nI 6) (by decide) (en_a (a := (21, 31, 0)) (by decide +kernel)) (en_k (by decide +kernel)) ?_
  show xm_G (en 6 L) (d + 1) true 68 161 [some (xm_r (20, 0, 0)), some (xm_i x), some (xm_i k), none] [xm_r (21, 31, 0), xm_r (20, 0, 0)] ((203, 1585), (xm_up fi (20, 0, 0) 5 (65536 : Int32)), fl, (xm_up (xm_up (xm_up (xm_up (xm_up (xm_up (xm_up (xm_up (xm_up (xm_up (xm_up (xm_up (xm_up (xm_up (xm_up (xm_up (xm_up (xm_up r (20, 0, 0) 8 (some (21, 8, 0))) (20, 0, 0) 9 (some (21, 9, 0))) (20, 0, 0) 10 (some (21, 10, 0))) (20, 0, 0) 11 (some (21, 11, 0))) (20, 0, 0) 12 (some (21, 12, 0))) (20, 0, 0) 13 (some (21, 13, 0))) (20, 0, 0) 14 (some (21, 14, 0))) (20, 0, 0) 15 (some (21, 15, 0))) (20, 0, 0) 16 (some (21, 16, 0))) (20, 0, 0) 17 (some (21, 17, 0))) (20, 0, 0) 18 (some (21, 18, 0))) (20, 0, 0) 19 (some (21, 19, 0))) (20, 0, 0) 20 (some (21, 20, 0))) (20, 0, 0) 24 (some (21, 24, 0))) (20, 0, 0) 27 (some (21, 27, 0))) (20, 0, 0) 28 (some (21, 28, 0))) (20, 0, 0) 29 (some (21, 29, 0))) (20, 0, 0) 30 (some (21, 30, 0)))) R
  refine pg_68_161 (en_ok (by decide +kernel)) ?_
  refine pg_68_164 rfl ?_
  refine pg_68_165 ?_
  refine pg_68_167 (n := 6) (rfl : (6 : Int32) = nI 6) (by decide) (en_a (a := (21, 32, 0)) (by decide +kernel)) (en_k (by decide +kernel)) ?_
  show xm_G (en 6 L) (d + 1) true 68 169 [some (xm_r (20, 0, 0)), some (xm_i x), some (xm_i k), none] [xm_r (21, 32, 0), xm_r (20, 0, 0)] ((204, 1591), (xm_up fi (20, 0, 0) 5 (65536 : Int32)), fl, (xm_up (xm_up (xm_up (xm_up (xm_up (xm_up (xm_up (xm_up (xm_up (xm_up (xm_up (xm_up (xm_up (xm_up (xm_up (xm_up (xm_up (xm_up (xm_up r (20, 0, 0) 8 (some (21, 8, 0))) (20, 0, 0) 9 (some (21, 9, 0))) (20, 0, 0) 10 (some (21, 10, 0))) (20, 0, 0) 11 (some (21, 11, 0))) (20, 0, 0) 12 (some (21, 12, 0))) (20, 0, 0) 13 (some (21, 13, 0))) (20, 0, 0) 14 (some (21, 14, 0))) (20, 0, 0) 15 (some (21, 15, 0))) (20, 0, 0) 16 (some (21, 16, 0))) (20, 0, 0) 17 (some (21, 17, 0))) (20, 0, 0) 18 (some (21, 18, 0))) (20, 0, 0) 19 (some (21, 19, 0))) (20, 0, 0) 20 (some (21, 20, 0))) (20, 0, 0) 24 (some (21, 24, 0))) (20, 0, 0) 27 (some (21, 27, 0))) (20, 0, 0) 28 (some (21, 28, 0))) (20, 0, 0) 29 (some (21, 29, 0))) (20, 0, 0) 30 (some (21, 30, 0))) (20, 0, 0) 31 (some (21, 31, 0)))) R
  refine pg_68_169 (en_ok (by decide +kernel)) ?_
  refine pg_68_172 rfl ?_
  refine pg_68_173 ?_
  refine pg_68_175 (n := 24) (rfl : (24 : Int32) = nI 24) (by decide) (en_a (a := (21, 33, 0)) (by decide +kernel)) (en_k (by decide +kernel)) ?_
  show xm_G (en 6 L) (d + 1) true 68 177 [some (xm_r (20, 0, 0)), some (xm_i x), some (xm_i k), none] [xm_r (21, 33, 0), xm_r (20, 0, 0)] ((205, 1615), (xm_up fi (20, 0, 0) 5 (65536 : Int32)), fl, (xm_up (xm_up (xm_up (xm_up (xm_up (xm_up (xm_up (xm_up (xm_up (xm_up (xm_up (xm_up (xm_up (xm_up (xm_up (xm_up (xm_up (xm_up (xm_up (xm_up r (20, 0, 0) 8 (some (21, 8, 0))) (20, 0, 0) 9 (some (21, 9, 0))) (20, 0, 0) 10 (some (21, 10, 0))) (20, 0, 0) 11 (some (21, 11, 0))) (20, 0, 0) 12 (some (21, 12, 0))) (20, 0, 0) 13 (some (21, 13, 0))) (20, 0, 0) 14 (some (21, 14, 0))) (20, 0, 0) 15 (some (21, 15, 0))) (20, 0, 0) 16 (some (21, 16, 0))) (20, 0, 0) 17 (some (21, 17, 0))) (20, 0, 0) 18 (some (21, 18, 0))) (20, 0, 0) 19 (some (21, 19, 0))) (20, 0, 0) 20 (some (21, 20, 0))) (20, 0, 0) 24 (some (21, 24, 0))) (20, 0, 0) 27 (some (21, 27, 0))) (20, 0, 0) 28 (some (21, 28, 0))) (20, 0, 0) 29 (some (21, 29, 0))) (20, 0, 0) 30 (some (21, 30, 0))) (20, 0, 0) 31 (some (21, 31, 0))) (20, 0, 0) 32 (some (21, 32, 0)))) R
  refine pg_68_177 (en_ok (by decide +kernel)) ?_
  refine pg_68_180 rfl ?_
  refine pg_68_181 ?_
  refine pg_68_184 (n := 144) (rfl : (144 : Int32) = nI 144) (by decide) (en_a (a := (21, 34, 0)) (by decide +kernel)) (en_k (by decide +kernel)) ?_
  show xm_G (en 6 L) (d + 1) true 68 186 [some (xm_r (20, 0, 0)), some (xm_i x), some (xm_i k), none] [xm_r (21, 34, 0), xm_r (20, 0, 0)] ((206, 1759), (xm_up fi (20, 0, 0) 5 (65536 : Int32)), fl, (xm_up (xm_up (xm_up (xm_up (xm_up (xm_up (xm_up (xm_up (xm_up (xm_up (xm_up (xm_up (xm_up (xm_up (xm_up (xm_up (xm_up (xm_up (xm_up (xm_up (xm_up r (20, 0, 0) 8 (some (21, 8, 0))) (20, 0, 0) 9 (some (21, 9, 0))) (20, 0, 0) 10 (some (21, 10, 0))) (20, 0, 0) 11 (some (21, 11, 0))) (20, 0, 0) 12 (some (21, 12, 0))) (20, 0, 0) 13 (some (21, 13, 0))) (20, 0, 0) 14 (some (21, 14, 0))) (20, 0, 0) 15 (some (21, 15, 0))) (20, 0, 0) 16 (some (21, 16, 0))) (20, 0, 0) 17 (some (21, 17, 0))) (20, 0, 0) 18 (some (21, 18, 0))) (20, 0, 0) 19 (some (21, 19, 0))) (20, 0, 0) 20 (some (21, 20, 0))) (20, 0, 0) 24 (some (21, 24, 0))) (20, 0, 0) 27 (some (21, 27, 0))) (20, 0, 0) 28 (some (21, 28, 0))) (20, 0, 0) 29 (some (21, 29, 0))) (20, 0, 0) 30 (some (21, 30, 0))) (20, 0, 0) 31 (some (21, 31, 0))) (20, 0, 0) 32 (some (21, 32, 0))) (20, 0, 0) 33 (some (21, 33, 0)))) R
  refine pg_68_186 (en_ok (by decide +kernel)) ?_
  refine pg_68_189 rfl ?_
  refine pg_68_190 ?_
  refine pg_68_193 (n := 144) (rfl : (144 : Int32) = nI 144) (by decide) (en_a (a := (21, 35, 0)) (by decide +kernel)) (en_k (by decide +kernel)) ?_
  show xm_G (en 6 L) (d + 1) true 68 195 [some (xm_r (20, 0, 0)), some (xm_i x), some (xm_i k), none] [xm_r (21, 35, 0), xm_r (20, 0, 0)] ((207, 1903), (xm_up fi (20, 0, 0) 5 (65536 : Int32)), fl, (xm_up (xm_up (xm_up (xm_up (xm_up (xm_up (xm_up (xm_up (xm_up (xm_up (xm_up (xm_up (xm_up (xm_up (xm_up (xm_up (xm_up (xm_up (xm_up (xm_up (xm_up (xm_up r (20, 0, 0) 8 (some (21, 8, 0))) (20, 0, 0) 9 (some (21, 9, 0))) (20, 0, 0) 10 (some (21, 10, 0))) (20, 0, 0) 11 (some (21, 11, 0))) (20, 0, 0) 12 (some (21, 12, 0))) (20, 0, 0) 13 (some (21, 13, 0))) (20, 0, 0) 14 (some (21, 14, 0))) (20, 0, 0) 15 (some (21, 15, 0))) (20, 0, 0) 16 (some (21, 16, 0))) (20, 0, 0) 17 (some (21, 17, 0))) (20, 0, 0) 18 (some (21, 18, 0))) (20, 0, 0) 19 (some (21, 19, 0))) (20, 0, 0) 20 (some (21, 20, 0))) (20, 0, 0) 24 (some (21, 24, 0))) (20, 0, 0) 27 (some (21, 27, 0))) (20, 0, 0) 28 (some (21, 28, 0))) (20, 0, 0) 29 (some (21, 29, 0))) (20, 0, 0) 30 (some (21, 30, 0))) (20, 0, 0) 31 (some (21, 31, 0))) (20, 0, 0) 32 (some (21, 32, 0))) (20, 0, 0) 33 (some (21, 33, 0))) (20, 0, 0) 34 (some (21, 34, 0)))) R
  refine pg_68_195 (en_ok (by decide +kernel)) ?_
  refine pg_68_198 rfl ?_
  refine pg_68_199 ?_
  refine pg_68_201 (n := 6) (rfl : (6 : Int32) = nI 6) (by decide) (en_a (a := (21, 37, 0)) (by decide +kernel)) (en_k (by decide +kernel)) ?_
  show xm_G (en 6 L) (d + 1) true 68 203 [some (xm_r (20, 0, 0)), some (xm_i x), some (xm_i k), none] [xm_r (21, 37, 0), xm_r (20, 0, 0)] ((208, 1909), (xm_up fi (20, 0, 0) 5 (65536 : Int32)), fl, (xm_up (xm_up (xm_up (xm_up (xm_up (xm_up (xm_up (xm_up (xm_up (xm_up (xm_up (xm_up (xm_up (xm_up (xm_up (xm_up (xm_up (xm_up (xm_up (xm_up (xm_up (xm_up (xm_up r (20, 0, 0) 8 (some (21, 8, 0))) (20, 0, 0) 9 (some (21, 9, 0))) (20, 0, 0) 10 (some (21, 10, 0))) (20, 0, 0) 11 (some (21, 11, 0))) (20, 0, 0) 12 (some (21, 12, 0))) (20, 0, 0) 13 (some (21, 13, 0))) (20, 0, 0) 14 (some (21, 14, 0))) (20, 0, 0) 15 (some (21, 15, 0))) (20, 0, 0) 16 (some (21, 16, 0))) (20, 0, 0) 17 (some (21, 17, 0))) (20, 0, 0) 18 (some (21, 18, 0))) (20, 0, 0) 19 (some (21, 19, 0))) (20, 0, 0) 20 (some (21, 20, 0))) (20, 0, 0) 24 (some (21, 24, 0))) (20, 0, 0) 27 (some (21, 27, 0))) (20, 0, 0) 28 (some (21, 28, 0))) (20, 0, 0) 29 (some (21, 29, 0))) (20, 0, 0) 30 (some (21, 30, 0))) (20, 0, 0) 31 (some (21, 31, 0))) (20, 0, 0) 32 (some (21, 32, 0))) (20, 0, 0) 33 (some (21, 33, 0))) (20, 0, 0) 34 (some (21, 34, 0))) (20, 0, 0) 35 (some (21, 35, 0)))) R
  refine pg_68_203 (en_ok (by decide +kernel)) ?_
  refine pg_68_206 rfl ?_
  refine pg_68_207 ?_
  refine pg_68_209 (n := 6) (rfl : (6 : Int32) = nI 6) (by decide) (en_a (a := (21, 38, 0)) (by decide +kernel)) (en_k (by decide +kernel)) ?_
  show xm_G (en 6 L) (d + 1) true 68 211 [some (xm_r (20, 0, 0)), some (xm_i x), some (xm_i k), none] [xm_r (21, 38, 0), xm_r (20, 0, 0)] ((209, 1915), (xm_up fi (20, 0, 0) 5 (65536 : Int32)), fl, (xm_up (xm_up (xm_up (xm_up (xm_up (xm_up (xm_up (xm_up (xm_up (xm_up (xm_up (xm_up (xm_up (xm_up (xm_up (xm_up (xm_up (xm_up (xm_up (xm_up (xm_up (xm_up (xm_up (xm_up r (20, 0, 0) 8 (some (21, 8, 0))) (20, 0, 0) 9 (some (21, 9, 0))) (20, 0, 0) 10 (some (21, 10, 0))) (20, 0, 0) 11 (some (21, 11, 0))) (20, 0, 0) 12 (some (21, 12, 0))) (20, 0, 0) 13 (some (21, 13, 0))) (20, 0, 0) 14 (some (21, 14, 0))) (20, 0, 0) 15 (some (21, 15, 0))) (20, 0, 0) 16 (some (21, 16, 0))) (20, 0, 0) 17 (some (21, 17, 0))) (20, 0, 0) 18 (some (21, 18, 0))) (20, 0, 0) 19 (some (21, 19, 0))) (20, 0, 0) 20 (some (21, 20, 0))) (20, 0, 0) 24 (some (21, 24, 0))) (20, 0, 0) 27 (some (21, 27, 0))) (20, 0, 0) 28 (some (21, 28, 0))) (20, 0, 0) 29 (some (21, 29, 0))) (20, 0, 0) 30 (some (21, 30, 0))) (20, 0, 0) 31 (some (21, 31, 0))) (20, 0, 0) 32 (some (21, 32, 0))) (20, 0, 0) 33 (some (21, 33, 0))) (20, 0, 0) 34 (some (21, 34, 0))) (20, 0, 0) 35 (some (21, 35, 0))) (20, 0, 0) 37 (some (21, 37, 0)))) R
  refine pg_68_211 (en_ok (by decide +kernel)) ?_
  refine pg_68_214 rfl ?_
  refine pg_68_215 rfl ?_
  refine pg_68_216 ?_
  suffices KJ : xm_G (en 6 L) (d + 1) true 68 231 [some (xm_r (20, 0, 0)), some (xm_i x), some (xm_i k), none] [xm_i (if x < (4 : Int32) then (4 : Int32) else (if x ≤ (6 : Int32) then x else (4 : Int32))), xm_r (20, 0, 0)] ((209, 1915), (xm_up fi (20, 0, 0) 5 (65536 : Int32)), fl, (xm_up (xm_up (xm_up (xm_up (xm_up (xm_up (xm_up (xm_up (xm_up (xm_up (xm_up (xm_up (xm_up (xm_up (xm_up (xm_up (xm_up (xm_up (xm_up (xm_up (xm_up (xm_up (xm_up (xm_up (xm_up r (20, 0, 0) 8 (some (21, 8, 0))) (20, 0, 0) 9 (some (21, 9, 0))) (20, 0, 0) 10 (some (21, 10, 0))) (20, 0, 0) 11 (some (21, 11, 0))) (20, 0, 0) 12 (some (21, 12, 0))) (20, 0, 0) 13 (some (21, 13, 0))) (20, 0, 0) 14 (some (21, 14, 0))) (20, 0, 0) 15 (some (21, 15, 0))) (20, 0, 0) 16 (some (21, 16, 0))) (20, 0, 0) 17 (some (21, 17, 0))) (20, 0, 0) 18 (some (21, 18, 0))) (20, 0, 0) 19 (some (21, 19, 0))) (20, 0, 0) 20 (some (21, 20, 0))) (20, 0, 0) 24 (some (21, 24, 0))) (20, 0, 0) 27 (some (21, 27, 0))) (20, 0, 0) 28 (some (21, 28, 0))) (20, 0, 0) 29 (some (21, 29, 0))) (20, 0, 0) 30 (some (21, 30, 0))) (20, 0, 0) 31 (some (21, 31, 0))) (20, 0, 0) 32 (some (21, 32, 0))) (20, 0, 0) 33 (some (21, 33, 0))) (20, 0, 0) 34 (some (21, 34, 0))) (20, 0, 0) 35 (some (21, 35, 0))) (20, 0, 0) 37 (some (21, 37, 0))) (20, 0, 0) 38 (some (21, 38, 0)))) R by
    refine pg_68_217 (fun hc1 => ?_) (fun hc2 => ?_)
    · refine pg_68_226 ?_
      refine pg_68_227 ?_
      repeat rw [if_pos hc1] at KJ
      repeat rw [if_pos hc1]
      exact KJ
    · refine pg_68_220 rfl ?_
      refine pg_68_221 ?_
      refine pg_68_223 (fun hc3 => ?_) (fun hc4 => ?_)
      · refine pg_68_230 rfl ?_
        repeat rw [if_neg hc2] at KJ
        repeat rw [if_pos hc3] at KJ
        repeat rw [if_neg hc2]
        repeat rw [if_pos hc3]
        exact KJ
      · refine pg_68_226 ?_
        refine pg_68_227 ?_
        repeat rw [if_neg hc2] at KJ
        repeat rw [if_neg hc4] at KJ
        repeat rw [if_neg hc2]
        repeat rw [if_neg hc4]
        exact KJ
  refine go_top (y := (6 : Int32)) hM ?_
  refine pg_68_231 (en_ok (by decide +kernel)) ?_
  refine pg_68_234 rfl ?_
  refine pg_68_235 rfl ?_
  refine pg_68_236 ?_
  suffices KJ : xm_G (en 6 L) (d + 1) true 68 251 [some (xm_r (20, 0, 0)), some (xm_i x), some (xm_i k), none] [xm_i (if k < (1 : Int32) then (3 : Int32) else (if k ≤ (8 : Int32) then k else (3 : Int32))), xm_r (20, 0, 0)] ((209, 1915), (xm_up (xm_up fi (20, 0, 0) 5 (65536 : Int32)) (20, 0, 0) 1 (6 : Int32)), fl, (xm_up (xm_up (xm_up (xm_up (xm_up (xm_up (xm_up (xm_up (xm_up (xm_up (xm_up (xm_up (xm_up (xm_up (xm_up (xm_up (xm_up (xm_up (xm_up (xm_up (xm_up (xm_up (xm_up (xm_up (xm_up r (20, 0, 0) 8 (some (21, 8, 0))) (20, 0, 0) 9 (some (21, 9, 0))) (20, 0, 0) 10 (some (21, 10, 0))) (20, 0, 0) 11 (some (21, 11, 0))) (20, 0, 0) 12 (some (21, 12, 0))) (20, 0, 0) 13 (some (21, 13, 0))) (20, 0, 0) 14 (some (21, 14, 0))) (20, 0, 0) 15 (some (21, 15, 0))) (20, 0, 0) 16 (some (21, 16, 0))) (20, 0, 0) 17 (some (21, 17, 0))) (20, 0, 0) 18 (some (21, 18, 0))) (20, 0, 0) 19 (some (21, 19, 0))) (20, 0, 0) 20 (some (21, 20, 0))) (20, 0, 0) 24 (some (21, 24, 0))) (20, 0, 0) 27 (some (21, 27, 0))) (20, 0, 0) 28 (some (21, 28, 0))) (20, 0, 0) 29 (some (21, 29, 0))) (20, 0, 0) 30 (some (21, 30, 0))) (20, 0, 0) 31 (some (21, 31, 0))) (20, 0, 0) 32 (some (21, 32, 0))) (20, 0, 0) 33 (some (21, 33, 0))) (20, 0, 0) 34 (some (21, 34, 0))) (20, 0, 0) 35 (some (21, 35, 0))) (20, 0, 0) 37 (some (21, 37, 0))) (20, 0, 0) 38 (some (21, 38, 0)))) R by
    refine pg_68_237 (fun hc5 => ?_) (fun hc6 => ?_)
    · refine pg_68_246 ?_
      refine pg_68_247 ?_
      repeat rw [if_pos hc5] at KJ
      repeat rw [if_pos hc5]
      exact KJ
    · refine pg_68_240 rfl ?_
      refine pg_68_241 ?_
      refine pg_68_243 (fun hc7 => ?_) (fun hc8 => ?_)
      · refine pg_68_250 rfl ?_
        repeat rw [if_neg hc6] at KJ
        repeat rw [if_pos hc7] at KJ
        repeat rw [if_neg hc6]
        repeat rw [if_pos hc7]
        exact KJ
      · refine pg_68_246 ?_
        refine pg_68_247 ?_
        repeat rw [if_neg hc6] at KJ
        repeat rw [if_neg hc8] at KJ
        repeat rw [if_neg hc6]
        repeat rw [if_neg hc8]
        exact KJ
  refine pg_68_251 (en_ok (by decide +kernel)) ?_
  refine pg_68_254 ?_
  refine pg_68_255 (lv' := [some (xm_r (20, 0, 0)), some (xm_i x), some (xm_i k), some (xm_i (0 : Int32))]) rfl ?_
  refine pg_68_256 rfl ?_
  refine pg_68_257 ?_
  refine pg_68_259 (fun hc => absurd hc (by decide)) (fun _ => ?_)
  refine pg_68_262 rfl ?_
  refine pg_68_263 (en_ok (by decide +kernel)) rfl ?_
  refine pg_68_266 rfl ?_
  refine pg_68_267 ?_
  refine pg_68_268 (en_ok (s := 36) (by decide +kernel)) (i := 0) (rfl : (0 : Int32) = nI 0) (by omega) (by omega) (Or.inr rfl) ?_
  refine pg_68_269 (y := (1 : Int32)) (lv' := [some (xm_r (20, 0, 0)), some (xm_i x), some (xm_i k), some (xm_i (1 : Int32))]) rfl (by decide) rfl ?_
  refine pg_68_272 ?_
  refine pg_68_256 rfl ?_
  refine pg_68_257 ?_
  refine pg_68_259 (fun hc => absurd hc (by decide)) (fun _ => ?_)
  refine pg_68_262 rfl ?_
  refine pg_68_263 (en_ok (by decide +kernel)) rfl ?_
  refine pg_68_266 rfl ?_
  refine pg_68_267 ?_
  refine pg_68_268 (en_ok (s := 36) (by decide +kernel)) (i := 1) (rfl : (1 : Int32) = nI 1) (by omega) (by omega) (Or.inr rfl) ?_
  refine pg_68_269 (y := (2 : Int32)) (lv' := [some (xm_r (20, 0, 0)), some (xm_i x), some (xm_i k), some (xm_i (2 : Int32))]) rfl (by decide) rfl ?_
  refine pg_68_272 ?_
  refine pg_68_256 rfl ?_
  refine pg_68_257 ?_
  refine pg_68_259 (fun hc => absurd hc (by decide)) (fun _ => ?_)
  refine pg_68_262 rfl ?_
  refine pg_68_263 (en_ok (by decide +kernel)) rfl ?_
  refine pg_68_266 rfl ?_
  refine pg_68_267 ?_
  refine pg_68_268 (en_ok (s := 36) (by decide +kernel)) (i := 2) (rfl : (2 : Int32) = nI 2) (by omega) (by omega) (Or.inr rfl) ?_
  refine pg_68_269 (y := (3 : Int32)) (lv' := [some (xm_r (20, 0, 0)), some (xm_i x), some (xm_i k), some (xm_i (3 : Int32))]) rfl (by decide) rfl ?_
  refine pg_68_272 ?_
  refine pg_68_256 rfl ?_
  refine pg_68_257 ?_
  refine pg_68_259 (fun hc => absurd hc (by decide)) (fun _ => ?_)
  refine pg_68_262 rfl ?_
  refine pg_68_263 (en_ok (by decide +kernel)) rfl ?_
  refine pg_68_266 rfl ?_
  refine pg_68_267 ?_
  refine pg_68_268 (en_ok (s := 36) (by decide +kernel)) (i := 3) (rfl : (3 : Int32) = nI 3) (by omega) (by omega) (Or.inr rfl) ?_
  refine pg_68_269 (y := (4 : Int32)) (lv' := [some (xm_r (20, 0, 0)), some (xm_i x), some (xm_i k), some (xm_i (4 : Int32))]) rfl (by decide) rfl ?_
  refine pg_68_272 ?_
  refine pg_68_256 rfl ?_
  refine pg_68_257 ?_
  refine pg_68_259 (fun hc => absurd hc (by decide)) (fun _ => ?_)
  refine pg_68_262 rfl ?_
  refine pg_68_263 (en_ok (by decide +kernel)) rfl ?_
  refine pg_68_266 rfl ?_
  refine pg_68_267 ?_
  refine pg_68_268 (en_ok (s := 36) (by decide +kernel)) (i := 4) (rfl : (4 : Int32) = nI 4) (by omega) (by omega) (Or.inr rfl) ?_
  refine pg_68_269 (y := (5 : Int32)) (lv' := [some (xm_r (20, 0, 0)), some (xm_i x), some (xm_i k), some (xm_i (5 : Int32))]) rfl (by decide) rfl ?_
  refine pg_68_272 ?_
  refine pg_68_256 rfl ?_
  refine pg_68_257 ?_
  refine pg_68_259 (fun hc => absurd hc (by decide)) (fun _ => ?_)
  refine pg_68_262 rfl ?_
  refine pg_68_263 (en_ok (by decide +kernel)) rfl ?_
  refine pg_68_266 rfl ?_
  refine pg_68_267 ?_
  refine pg_68_268 (en_ok (s := 36) (by decide +kernel)) (i := 5) (rfl : (5 : Int32) = nI 5) (by omega) (by omega) (Or.inr rfl) ?_
  refine pg_68_269 (y := (6 : Int32)) (lv' := [some (xm_r (20, 0, 0)), some (xm_i x), some (xm_i k), some (xm_i (6 : Int32))]) rfl (by decide) rfl ?_
  refine pg_68_272 ?_
  refine pg_68_256 rfl ?_
  refine pg_68_257 ?_
  refine pg_68_259 (fun hc => absurd hc (by decide)) (fun _ => ?_)
  refine pg_68_262 rfl ?_
  refine pg_68_263 (en_ok (by decide +kernel)) rfl ?_
  refine pg_68_266 rfl ?_
  refine pg_68_267 ?_
  refine pg_68_268 (en_ok (s := 36) (by decide +kernel)) (i := 6) (rfl : (6 : Int32) = nI 6) (by omega) (by omega) (Or.inr rfl) ?_
  refine pg_68_269 (y := (7 : Int32)) (lv' := [some (xm_r (20, 0, 0)), some (xm_i x), some (xm_i k), some (xm_i (7 : Int32))]) rfl (by decide) rfl ?_
  refine pg_68_272 ?_
  refine pg_68_256 rfl ?_
  refine pg_68_257 ?_
  refine pg_68_259 (fun hc => absurd hc (by decide)) (fun _ => ?_)
  refine pg_68_262 rfl ?_
  refine pg_68_263 (en_ok (by decide +kernel)) rfl ?_
  refine pg_68_266 rfl ?_
  refine pg_68_267 ?_
  refine pg_68_268 (en_ok (s := 36) (by decide +kernel)) (i := 7) (rfl : (7 : Int32) = nI 7) (by omega) (by omega) (Or.inr rfl) ?_
  refine pg_68_269 (y := (8 : Int32)) (lv' := [some (xm_r (20, 0, 0)), some (xm_i x), some (xm_i k), some (xm_i (8 : Int32))]) rfl (by decide) rfl ?_
  refine pg_68_272 ?_
  refine pg_68_256 rfl ?_
  refine pg_68_257 ?_
  refine pg_68_259 (fun hc => absurd hc (by decide)) (fun _ => ?_)
  refine pg_68_262 rfl ?_
  refine pg_68_263 (en_ok (by decide +kernel)) rfl ?_
  refine pg_68_266 rfl ?_
  refine pg_68_267 ?_
  refine pg_68_268 (en_ok (s := 36) (by decide +kernel)) (i := 8) (rfl : (8 : Int32) = nI 8) (by omega) (by omega) (Or.inr rfl) ?_
  refine pg_68_269 (y := (9 : Int32)) (lv' := [some (xm_r (20, 0, 0)), some (xm_i x), some (xm_i k), some (xm_i (9 : Int32))]) rfl (by decide) rfl ?_
  refine pg_68_272 ?_
  refine pg_68_256 rfl ?_
  refine pg_68_257 ?_
  refine pg_68_259 (fun hc => absurd hc (by decide)) (fun _ => ?_)
  refine pg_68_262 rfl ?_
  refine pg_68_263 (en_ok (by decide +kernel)) rfl ?_
  refine pg_68_266 rfl ?_
  refine pg_68_267 ?_
  refine pg_68_268 (en_ok (s := 36) (by decide +kernel)) (i := 9) (rfl : (9 : Int32) = nI 9) (by omega) (by omega) (Or.inr rfl) ?_
  refine pg_68_269 (y := (10 : Int32)) (lv' := [some (xm_r (20, 0, 0)), some (xm_i x), some (xm_i k), some (xm_i (10 : Int32))]) rfl (by decide) rfl ?_
  refine pg_68_272 ?_
  refine pg_68_256 rfl ?_
  refine pg_68_257 ?_
  refine pg_68_259 (fun hc => absurd hc (by decide)) (fun _ => ?_)
  refine pg_68_262 rfl ?_
  refine pg_68_263 (en_ok (by decide +kernel)) rfl ?_
  refine pg_68_266 rfl ?_
  refine pg_68_267 ?_
  refine pg_68_268 (en_ok (s := 36) (by decide +kernel)) (i := 10) (rfl : (10 : Int32) = nI 10) (by omega) (by omega) (Or.inr rfl) ?_
  refine pg_68_269 (y := (11 : Int32)) (lv' := [some (xm_r (20, 0, 0)), some (xm_i x), some (xm_i k), some (xm_i (11 : Int32))]) rfl (by decide) rfl ?_
  refine pg_68_272 ?_
  refine pg_68_256 rfl ?_
  refine pg_68_257 ?_
  refine pg_68_259 (fun hc => absurd hc (by decide)) (fun _ => ?_)
  refine pg_68_262 rfl ?_
  refine pg_68_263 (en_ok (by decide +kernel)) rfl ?_
  refine pg_68_266 rfl ?_
  refine pg_68_267 ?_
  refine pg_68_268 (en_ok (s := 36) (by decide +kernel)) (i := 11) (rfl : (11 : Int32) = nI 11) (by omega) (by omega) (Or.inr rfl) ?_
  refine pg_68_269 (y := (12 : Int32)) (lv' := [some (xm_r (20, 0, 0)), some (xm_i x), some (xm_i k), some (xm_i (12 : Int32))]) rfl (by decide) rfl ?_
  refine pg_68_272 ?_
  refine pg_68_256 rfl ?_
  refine pg_68_257 ?_
  refine pg_68_259 (fun hc => absurd hc (by decide)) (fun _ => ?_)
  refine pg_68_262 rfl ?_
  refine pg_68_263 (en_ok (by decide +kernel)) rfl ?_
  refine pg_68_266 rfl ?_
  refine pg_68_267 ?_
  refine pg_68_268 (en_ok (s := 36) (by decide +kernel)) (i := 12) (rfl : (12 : Int32) = nI 12) (by omega) (by omega) (Or.inr rfl) ?_
  refine pg_68_269 (y := (13 : Int32)) (lv' := [some (xm_r (20, 0, 0)), some (xm_i x), some (xm_i k), some (xm_i (13 : Int32))]) rfl (by decide) rfl ?_
  refine pg_68_272 ?_
  refine pg_68_256 rfl ?_
  refine pg_68_257 ?_
  refine pg_68_259 (fun hc => absurd hc (by decide)) (fun _ => ?_)
  refine pg_68_262 rfl ?_
  refine pg_68_263 (en_ok (by decide +kernel)) rfl ?_
  refine pg_68_266 rfl ?_
  refine pg_68_267 ?_
  refine pg_68_268 (en_ok (s := 36) (by decide +kernel)) (i := 13) (rfl : (13 : Int32) = nI 13) (by omega) (by omega) (Or.inr rfl) ?_
  refine pg_68_269 (y := (14 : Int32)) (lv' := [some (xm_r (20, 0, 0)), some (xm_i x), some (xm_i k), some (xm_i (14 : Int32))]) rfl (by decide) rfl ?_
  refine pg_68_272 ?_
  refine pg_68_256 rfl ?_
  refine pg_68_257 ?_
  refine pg_68_259 (fun hc => absurd hc (by decide)) (fun _ => ?_)
  refine pg_68_262 rfl ?_
  refine pg_68_263 (en_ok (by decide +kernel)) rfl ?_
  refine pg_68_266 rfl ?_
  refine pg_68_267 ?_
  refine pg_68_268 (en_ok (s := 36) (by decide +kernel)) (i := 14) (rfl : (14 : Int32) = nI 14) (by omega) (by omega) (Or.inr rfl) ?_
  refine pg_68_269 (y := (15 : Int32)) (lv' := [some (xm_r (20, 0, 0)), some (xm_i x), some (xm_i k), some (xm_i (15 : Int32))]) rfl (by decide) rfl ?_
  refine pg_68_272 ?_
  refine pg_68_256 rfl ?_
  refine pg_68_257 ?_
  refine pg_68_259 (fun hc => absurd hc (by decide)) (fun _ => ?_)
  refine pg_68_262 rfl ?_
  refine pg_68_263 (en_ok (by decide +kernel)) rfl ?_
  refine pg_68_266 rfl ?_
  refine pg_68_267 ?_
  refine pg_68_268 (en_ok (s := 36) (by decide +kernel)) (i := 15) (rfl : (15 : Int32) = nI 15) (by omega) (by omega) (Or.inr rfl) ?_
  refine pg_68_269 (y := (16 : Int32)) (lv' := [some (xm_r (20, 0, 0)), some (xm_i x), some (xm_i k), some (xm_i (16 : Int32))]) rfl (by decide) rfl ?_
  refine pg_68_272 ?_
  refine pg_68_256 rfl ?_
  refine pg_68_257 ?_
  refine pg_68_259 (fun hc => absurd hc (by decide)) (fun _ => ?_)
  refine pg_68_262 rfl ?_
  refine pg_68_263 (en_ok (by decide +kernel)) rfl ?_
  refine pg_68_266 rfl ?_
  refine pg_68_267 ?_
  refine pg_68_268 (en_ok (s := 36) (by decide +kernel)) (i := 16) (rfl : (16 : Int32) = nI 16) (by omega) (by omega) (Or.inr rfl) ?_
  refine pg_68_269 (y := (17 : Int32)) (lv' := [some (xm_r (20, 0, 0)), some (xm_i x), some (xm_i k), some (xm_i (17 : Int32))]) rfl (by decide) rfl ?_
  refine pg_68_272 ?_
  refine pg_68_256 rfl ?_
  refine pg_68_257 ?_
  refine pg_68_259 (fun hc => absurd hc (by decide)) (fun _ => ?_)
  refine pg_68_262 rfl ?_
  refine pg_68_263 (en_ok (by decide +kernel)) rfl ?_
  refine pg_68_266 rfl ?_
  refine pg_68_267 ?_
  refine pg_68_268 (en_ok (s := 36) (by decide +kernel)) (i := 17) (rfl : (17 : Int32) = nI 17) (by omega) (by omega) (Or.inr rfl) ?_
  refine pg_68_269 (y := (18 : Int32)) (lv' := [some (xm_r (20, 0, 0)), some (xm_i x), some (xm_i k), some (xm_i (18 : Int32))]) rfl (by decide) rfl ?_
  refine pg_68_272 ?_
  refine pg_68_256 rfl ?_
  refine pg_68_257 ?_
  refine pg_68_259 (fun hc => absurd hc (by decide)) (fun _ => ?_)
  refine pg_68_262 rfl ?_
  refine pg_68_263 (en_ok (by decide +kernel)) rfl ?_
  refine pg_68_266 rfl ?_
  refine pg_68_267 ?_
  refine pg_68_268 (en_ok (s := 36) (by decide +kernel)) (i := 18) (rfl : (18 : Int32) = nI 18) (by omega) (by omega) (Or.inr rfl) ?_
  refine pg_68_269 (y := (19 : Int32)) (lv' := [some (xm_r (20, 0, 0)), some (xm_i x), some (xm_i k), some (xm_i (19 : Int32))]) rfl (by decide) rfl ?_
  refine pg_68_272 ?_
  refine pg_68_256 rfl ?_
  refine pg_68_257 ?_
  refine pg_68_259 (fun hc => absurd hc (by decide)) (fun _ => ?_)
  refine pg_68_262 rfl ?_
  refine pg_68_263 (en_ok (by decide +kernel)) rfl ?_
  refine pg_68_266 rfl ?_
  refine pg_68_267 ?_
  refine pg_68_268 (en_ok (s := 36) (by decide +kernel)) (i := 19) (rfl : (19 : Int32) = nI 19) (by omega) (by omega) (Or.inr rfl) ?_
  refine pg_68_269 (y := (20 : Int32)) (lv' := [some (xm_r (20, 0, 0)), some (xm_i x), some (xm_i k), some (xm_i (20 : Int32))]) rfl (by decide) rfl ?_
  refine pg_68_272 ?_
  refine pg_68_256 rfl ?_
  refine pg_68_257 ?_
  refine pg_68_259 (fun hc => absurd hc (by decide)) (fun _ => ?_)
  refine pg_68_262 rfl ?_
  refine pg_68_263 (en_ok (by decide +kernel)) rfl ?_
  refine pg_68_266 rfl ?_
  refine pg_68_267 ?_
  refine pg_68_268 (en_ok (s := 36) (by decide +kernel)) (i := 20) (rfl : (20 : Int32) = nI 20) (by omega) (by omega) (Or.inr rfl) ?_
  refine pg_68_269 (y := (21 : Int32)) (lv' := [some (xm_r (20, 0, 0)), some (xm_i x), some (xm_i k), some (xm_i (21 : Int32))]) rfl (by decide) rfl ?_
  refine pg_68_272 ?_
  refine pg_68_256 rfl ?_
  refine pg_68_257 ?_
  refine pg_68_259 (fun hc => absurd hc (by decide)) (fun _ => ?_)
  refine pg_68_262 rfl ?_
  refine pg_68_263 (en_ok (by decide +kernel)) rfl ?_
  refine pg_68_266 rfl ?_
  refine pg_68_267 ?_
  refine pg_68_268 (en_ok (s := 36) (by decide +kernel)) (i := 21) (rfl : (21 : Int32) = nI 21) (by omega) (by omega) (Or.inr rfl) ?_
  refine pg_68_269 (y := (22 : Int32)) (lv' := [some (xm_r (20, 0, 0)), some (xm_i x), some (xm_i k), some (xm_i (22 : Int32))]) rfl (by decide) rfl ?_
  refine pg_68_272 ?_
  refine pg_68_256 rfl ?_
  refine pg_68_257 ?_
  refine pg_68_259 (fun hc => absurd hc (by decide)) (fun _ => ?_)
  refine pg_68_262 rfl ?_
  refine pg_68_263 (en_ok (by decide +kernel)) rfl ?_
  refine pg_68_266 rfl ?_
  refine pg_68_267 ?_
  refine pg_68_268 (en_ok (s := 36) (by decide +kernel)) (i := 22) (rfl : (22 : Int32) = nI 22) (by omega) (by omega) (Or.inr rfl) ?_
  refine pg_68_269 (y := (23 : Int32)) (lv' := [some (xm_r (20, 0, 0)), some (xm_i x), some (xm_i k), some (xm_i (23 : Int32))]) rfl (by decide) rfl ?_
  refine pg_68_272 ?_
  refine pg_68_256 rfl ?_
  refine pg_68_257 ?_
  refine pg_68_259 (fun hc => absurd hc (by decide)) (fun _ => ?_)
  refine pg_68_262 rfl ?_
  refine pg_68_263 (en_ok (by decide +kernel)) rfl ?_
  refine pg_68_266 rfl ?_
  refine pg_68_267 ?_
  refine pg_68_268 (en_ok (s := 36) (by decide +kernel)) (i := 23) (rfl : (23 : Int32) = nI 23) (by omega) (by omega) (Or.inr rfl) ?_
  refine pg_68_269 (y := (24 : Int32)) (lv' := [some (xm_r (20, 0, 0)), some (xm_i x), some (xm_i k), some (xm_i (24 : Int32))]) rfl (by decide) rfl ?_
  refine pg_68_272 ?_
  refine pg_68_256 rfl ?_
  refine pg_68_257 ?_
  refine pg_68_259 (fun hc => absurd hc (by decide)) (fun _ => ?_)
  refine pg_68_262 rfl ?_
  refine pg_68_263 (en_ok (by decide +kernel)) rfl ?_
  refine pg_68_266 rfl ?_
  refine pg_68_267 ?_
  refine pg_68_268 (en_ok (s := 36) (by decide +kernel)) (i := 24) (rfl : (24 : Int32) = nI 24) (by omega) (by omega) (Or.inr rfl) ?_
  refine pg_68_269 (y := (25 : Int32)) (lv' := [some (xm_r (20, 0, 0)), some (xm_i x), some (xm_i k), some (xm_i (25 : Int32))]) rfl (by decide) rfl ?_
  refine pg_68_272 ?_
  refine pg_68_256 rfl ?_
  refine pg_68_257 ?_
  refine pg_68_259 (fun hc => absurd hc (by decide)) (fun _ => ?_)
  refine pg_68_262 rfl ?_
  refine pg_68_263 (en_ok (by decide +kernel)) rfl ?_
  refine pg_68_266 rfl ?_
  refine pg_68_267 ?_
  refine pg_68_268 (en_ok (s := 36) (by decide +kernel)) (i := 25) (rfl : (25 : Int32) = nI 25) (by omega) (by omega) (Or.inr rfl) ?_
  refine pg_68_269 (y := (26 : Int32)) (lv' := [some (xm_r (20, 0, 0)), some (xm_i x), some (xm_i k), some (xm_i (26 : Int32))]) rfl (by decide) rfl ?_
  refine pg_68_272 ?_
  refine pg_68_256 rfl ?_
  refine pg_68_257 ?_
  refine pg_68_259 (fun hc => absurd hc (by decide)) (fun _ => ?_)
  refine pg_68_262 rfl ?_
  refine pg_68_263 (en_ok (by decide +kernel)) rfl ?_
  refine pg_68_266 rfl ?_
  refine pg_68_267 ?_
  refine pg_68_268 (en_ok (s := 36) (by decide +kernel)) (i := 26) (rfl : (26 : Int32) = nI 26) (by omega) (by omega) (Or.inr rfl) ?_
  refine pg_68_269 (y := (27 : Int32)) (lv' := [some (xm_r (20, 0, 0)), some (xm_i x), some (xm_i k), some (xm_i (27 : Int32))]) rfl (by decide) rfl ?_
  refine pg_68_272 ?_
  refine pg_68_256 rfl ?_
  refine pg_68_257 ?_
  refine pg_68_259 (fun hc => absurd hc (by decide)) (fun _ => ?_)
  refine pg_68_262 rfl ?_
  refine pg_68_263 (en_ok (by decide +kernel)) rfl ?_
  refine pg_68_266 rfl ?_
  refine pg_68_267 ?_
  refine pg_68_268 (en_ok (s := 36) (by decide +kernel)) (i := 27) (rfl : (27 : Int32) = nI 27) (by omega) (by omega) (Or.inr rfl) ?_
  refine pg_68_269 (y := (28 : Int32)) (lv' := [some (xm_r (20, 0, 0)), some (xm_i x), some (xm_i k), some (xm_i (28 : Int32))]) rfl (by decide) rfl ?_
  refine pg_68_272 ?_
  refine pg_68_256 rfl ?_
  refine pg_68_257 ?_
  refine pg_68_259 (fun hc => absurd hc (by decide)) (fun _ => ?_)
  refine pg_68_262 rfl ?_
  refine pg_68_263 (en_ok (by decide +kernel)) rfl ?_
  refine pg_68_266 rfl ?_
  refine pg_68_267 ?_
  refine pg_68_268 (en_ok (s := 36) (by decide +kernel)) (i := 28) (rfl : (28 : Int32) = nI 28) (by omega) (by omega) (Or.inr rfl) ?_
  refine pg_68_269 (y := (29 : Int32)) (lv' := [some (xm_r (20, 0, 0)), some (xm_i x), some (xm_i k), some (xm_i (29 : Int32))]) rfl (by decide) rfl ?_
  refine pg_68_272 ?_
  refine pg_68_256 rfl ?_
  refine pg_68_257 ?_
  refine pg_68_259 (fun hc => absurd hc (by decide)) (fun _ => ?_)
  refine pg_68_262 rfl ?_
  refine pg_68_263 (en_ok (by decide +kernel)) rfl ?_
  refine pg_68_266 rfl ?_
  refine pg_68_267 ?_
  refine pg_68_268 (en_ok (s := 36) (by decide +kernel)) (i := 29) (rfl : (29 : Int32) = nI 29) (by omega) (by omega) (Or.inr rfl) ?_
  refine pg_68_269 (y := (30 : Int32)) (lv' := [some (xm_r (20, 0, 0)), some (xm_i x), some (xm_i k), some (xm_i (30 : Int32))]) rfl (by decide) rfl ?_
  refine pg_68_272 ?_
  refine pg_68_256 rfl ?_
  refine pg_68_257 ?_
  refine pg_68_259 (fun hc => absurd hc (by decide)) (fun _ => ?_)
  refine pg_68_262 rfl ?_
  refine pg_68_263 (en_ok (by decide +kernel)) rfl ?_
  refine pg_68_266 rfl ?_
  refine pg_68_267 ?_
  refine pg_68_268 (en_ok (s := 36) (by decide +kernel)) (i := 30) (rfl : (30 : Int32) = nI 30) (by omega) (by omega) (Or.inr rfl) ?_
  refine pg_68_269 (y := (31 : Int32)) (lv' := [some (xm_r (20, 0, 0)), some (xm_i x), some (xm_i k), some (xm_i (31 : Int32))]) rfl (by decide) rfl ?_
  refine pg_68_272 ?_
  refine pg_68_256 rfl ?_
  refine pg_68_257 ?_
  refine pg_68_259 (fun hc => absurd hc (by decide)) (fun _ => ?_)
  refine pg_68_262 rfl ?_
  refine pg_68_263 (en_ok (by decide +kernel)) rfl ?_
  refine pg_68_266 rfl ?_
  refine pg_68_267 ?_
  refine pg_68_268 (en_ok (s := 36) (by decide +kernel)) (i := 31) (rfl : (31 : Int32) = nI 31) (by omega) (by omega) (Or.inr rfl) ?_
  refine pg_68_269 (y := (32 : Int32)) (lv' := [some (xm_r (20, 0, 0)), some (xm_i x), some (xm_i k), some (xm_i (32 : Int32))]) rfl (by decide) rfl ?_
  refine pg_68_272 ?_
  refine pg_68_256 rfl ?_
  refine pg_68_257 ?_
  refine pg_68_259 (fun hc => absurd hc (by decide)) (fun _ => ?_)
  refine pg_68_262 rfl ?_
  refine pg_68_263 (en_ok (by decide +kernel)) rfl ?_
  refine pg_68_266 rfl ?_
  refine pg_68_267 ?_
  refine pg_68_268 (en_ok (s := 36) (by decide +kernel)) (i := 32) (rfl : (32 : Int32) = nI 32) (by omega) (by omega) (Or.inr rfl) ?_
  refine pg_68_269 (y := (33 : Int32)) (lv' := [some (xm_r (20, 0, 0)), some (xm_i x), some (xm_i k), some (xm_i (33 : Int32))]) rfl (by decide) rfl ?_
  refine pg_68_272 ?_
  refine pg_68_256 rfl ?_
  refine pg_68_257 ?_
  refine pg_68_259 (fun hc => absurd hc (by decide)) (fun _ => ?_)
  refine pg_68_262 rfl ?_
  refine pg_68_263 (en_ok (by decide +kernel)) rfl ?_
  refine pg_68_266 rfl ?_
  refine pg_68_267 ?_
  refine pg_68_268 (en_ok (s := 36) (by decide +kernel)) (i := 33) (rfl : (33 : Int32) = nI 33) (by omega) (by omega) (Or.inr rfl) ?_
  refine pg_68_269 (y := (34 : Int32)) (lv' := [some (xm_r (20, 0, 0)), some (xm_i x), some (xm_i k), some (xm_i (34 : Int32))]) rfl (by decide) rfl ?_
  refine pg_68_272 ?_
  refine pg_68_256 rfl ?_
  refine pg_68_257 ?_
  refine pg_68_259 (fun hc => absurd hc (by decide)) (fun _ => ?_)
  refine pg_68_262 rfl ?_
  refine pg_68_263 (en_ok (by decide +kernel)) rfl ?_
  refine pg_68_266 rfl ?_
  refine pg_68_267 ?_
  refine pg_68_268 (en_ok (s := 36) (by decide +kernel)) (i := 34) (rfl : (34 : Int32) = nI 34) (by omega) (by omega) (Or.inr rfl) ?_
  refine pg_68_269 (y := (35 : Int32)) (lv' := [some (xm_r (20, 0, 0)), some (xm_i x), some (xm_i k), some (xm_i (35 : Int32))]) rfl (by decide) rfl ?_
  refine pg_68_272 ?_
  refine pg_68_256 rfl ?_
  refine pg_68_257 ?_
  refine pg_68_259 (fun hc => absurd hc (by decide)) (fun _ => ?_)
  refine pg_68_262 rfl ?_
  refine pg_68_263 (en_ok (by decide +kernel)) rfl ?_
  refine pg_68_266 rfl ?_
  refine pg_68_267 ?_
  refine pg_68_268 (en_ok (s := 36) (by decide +kernel)) (i := 35) (rfl : (35 : Int32) = nI 35) (by omega) (by omega) (Or.inr rfl) ?_
  refine pg_68_269 (y := (36 : Int32)) (lv' := [some (xm_r (20, 0, 0)), some (xm_i x), some (xm_i k), some (xm_i (36 : Int32))]) rfl (by decide) rfl ?_
  refine pg_68_272 ?_
  refine pg_68_256 rfl ?_
  refine pg_68_257 ?_
  refine pg_68_259 (fun _ => ?_) (fun hc => absurd (by decide) hc)
  exact go_eq hR.symm (pg_68_275)
