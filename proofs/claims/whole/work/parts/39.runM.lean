/-! The law up to its loop. Written by wip/whole/prog. -/
def sf_4 (fi : FI) (x k : Int32) : FI := (cf_68_4_0 (cf_0_4_0 fi x k) x k)
def sl_4 (fl : FL) : FL := (cl_0_4_0 fl)
def sq_4 (r : xm_I → Nat → Option xm_I) : xm_I → Nat → Option xm_I := (cr_68_4_0 (cr_0_4_0 r))
set_option maxRecDepth 8000 in
theorem lw_start_4 {L : Nat} {fi : FI} {fl : FL} {r : xm_I → Nat → Option xm_I} {R : xm_O} {x k : Int32} (hL : L < 100000) (hx0 : (if 0 < L then fi (40, 0, 0) 0 else 0) = x) (hx1 : (if 1 < L then fi (40, 0, 0) 1 else 0) = k) (hN : (if x < (4 : Int32) then (4 : Int32) else (if (6 : Int32) < x then (4 : Int32) else x)) = (4 : Int32)) (hM : (if x < (4 : Int32) then (4 : Int32) else (if x ≤ (6 : Int32) then x else (4 : Int32))) = (4 : Int32)) (K : ∀ u5 u6 u7 : Option xm_V, xm_G (en 4 L) 8 true 145 43 [some (xm_r (40, 0, 0)), some (xm_r (0, 0, 0)), some (xm_r (20, 0, 0)), some (xm_r (30, 0, 0)), some (xm_i (nI 2)), u5, u6, u7] [] ((136, 1488), sf_4 fi x k, sl_4 fl, sq_4 r) R) : xm_G (en 4 L) 8 true 145 0 [some (xm_r (40, 0, 0)), none, none, none, none, none, none, none] [] ((0, 0), fi, fl, r) R := by
  refine pg_145_0 (a := (0, 0, 0)) (en_a (by decide +kernel)) (en_k (by decide +kernel)) ?_
  show xm_G (en 4 L) 8 true 145 3 [some (xm_r (40, 0, 0)), none, none, none, none, none, none, none] [xm_r (0, 0, 0)] ((1, 7), fi, fl, r) R
  refine pg_145_3 rfl ?_
  refine pg_145_4 rfl ?_
  refine pg_145_5 ?_
  refine pg_145_6 (Nat.le_of_ble_eq_true rfl) (ct_126 (k := 0) (L := L) en_sc hL (by decide)) ?_
  refine go_top (y := x) hx0 ?_
  show xm_G (en 4 L) 8 true 145 9 [some (xm_r (40, 0, 0)), none, none, none, none, none, none, none] [xm_i x, xm_r (0, 0, 0), xm_r (0, 0, 0)] ((1, 7), fi, fl, r) R
  refine pg_145_9 rfl ?_
  refine pg_145_10 ?_
  refine pg_145_11 (Nat.le_of_ble_eq_true rfl) (ct_126 (k := 1) (L := L) en_sc hL (by decide)) ?_
  refine go_top (y := k) hx1 ?_
  show xm_G (en 4 L) 8 true 145 14 [some (xm_r (40, 0, 0)), none, none, none, none, none, none, none] [xm_i k, xm_i x, xm_r (0, 0, 0), xm_r (0, 0, 0)] ((1, 7), fi, fl, r) R
  refine pg_145_14 (Nat.le_of_ble_eq_true rfl) (ct_0_4_0 hN) ?_
  show xm_G (en 4 L) 8 true 145 17 [some (xm_r (40, 0, 0)), none, none, none, none, none, none, none] [xm_r (0, 0, 0)] ((109, 402), (cf_0_4_0 fi x k), (cl_0_4_0 fl), (cr_0_4_0 r)) R
  refine pg_145_17 (lv' := [some (xm_r (40, 0, 0)), some (xm_r (0, 0, 0)), none, none, none, none, none, none]) rfl ?_
  refine pg_145_18 (a := (20, 0, 0)) (en_a (by decide +kernel)) (en_k (by decide +kernel)) ?_
  show xm_G (en 4 L) 8 true 145 21 [some (xm_r (40, 0, 0)), some (xm_r (0, 0, 0)), none, none, none, none, none, none] [xm_r (20, 0, 0)] ((110, 442), (cf_0_4_0 fi x k), (cl_0_4_0 fl), (cr_0_4_0 r)) R
  refine pg_145_21 rfl ?_
  refine pg_145_22 rfl ?_
  refine pg_145_23 ?_
  refine pg_145_24 (Nat.le_of_ble_eq_true rfl) (ct_126 (k := 0) (L := L) en_sc hL (by decide)) ?_
  refine go_top (y := x) hx0 ?_
  show xm_G (en 4 L) 8 true 145 27 [some (xm_r (40, 0, 0)), some (xm_r (0, 0, 0)), none, none, none, none, none, none] [xm_i x, xm_r (20, 0, 0), xm_r (20, 0, 0)] ((110, 442), (cf_0_4_0 fi x k), (cl_0_4_0 fl), (cr_0_4_0 r)) R
  refine pg_145_27 rfl ?_
  refine pg_145_28 ?_
  refine pg_145_29 (Nat.le_of_ble_eq_true rfl) (ct_126 (k := 1) (L := L) en_sc hL (by decide)) ?_
  refine go_top (y := k) hx1 ?_
  show xm_G (en 4 L) 8 true 145 32 [some (xm_r (40, 0, 0)), some (xm_r (0, 0, 0)), none, none, none, none, none, none] [xm_i k, xm_i x, xm_r (20, 0, 0), xm_r (20, 0, 0)] ((110, 442), (cf_0_4_0 fi x k), (cl_0_4_0 fl), (cr_0_4_0 r)) R
  refine pg_145_32 (Nat.le_of_ble_eq_true rfl) (ct_68_4_0 hM) ?_
  show xm_G (en 4 L) 8 true 145 35 [some (xm_r (40, 0, 0)), some (xm_r (0, 0, 0)), none, none, none, none, none, none] [xm_r (20, 0, 0)] ((135, 1487), (cf_68_4_0 (cf_0_4_0 fi x k) x k), (cl_0_4_0 fl), (cr_68_4_0 (cr_0_4_0 r))) R
  refine pg_145_35 (lv' := [some (xm_r (40, 0, 0)), some (xm_r (0, 0, 0)), some (xm_r (20, 0, 0)), none, none, none, none, none]) rfl ?_
  refine pg_145_36 ?_
  refine pg_145_37 (n := 1) (rfl : (1 : Int32) = nI 1) (by decide) (en_a (a := (30, 0, 0)) (by decide +kernel)) (en_k (by decide +kernel)) ?_
  show xm_G (en 4 L) 8 true 145 39 [some (xm_r (40, 0, 0)), some (xm_r (0, 0, 0)), some (xm_r (20, 0, 0)), none, none, none, none, none] [xm_r (30, 0, 0)] ((136, 1488), (cf_68_4_0 (cf_0_4_0 fi x k) x k), (cl_0_4_0 fl), (cr_68_4_0 (cr_0_4_0 r))) R
  refine pg_145_39 (lv' := [some (xm_r (40, 0, 0)), some (xm_r (0, 0, 0)), some (xm_r (20, 0, 0)), some (xm_r (30, 0, 0)), none, none, none, none]) rfl ?_
  refine pg_145_40 ?_
  refine pg_145_41 (lv' := [some (xm_r (40, 0, 0)), some (xm_r (0, 0, 0)), some (xm_r (20, 0, 0)), some (xm_r (30, 0, 0)), some (xm_i (2 : Int32)), none, none, none]) rfl ?_
  exact K _ _ _
def sf_5 (fi : FI) (x k : Int32) : FI := (cf_68_5_0 (cf_0_5_0 fi x k) x k)
def sl_5 (fl : FL) : FL := (cl_0_5_0 fl)
def sq_5 (r : xm_I → Nat → Option xm_I) : xm_I → Nat → Option xm_I := (cr_68_5_0 (cr_0_5_0 r))
set_option maxRecDepth 8000 in
theorem lw_start_5 {L : Nat} {fi : FI} {fl : FL} {r : xm_I → Nat → Option xm_I} {R : xm_O} {x k : Int32} (hL : L < 100000) (hx0 : (if 0 < L then fi (40, 0, 0) 0 else 0) = x) (hx1 : (if 1 < L then fi (40, 0, 0) 1 else 0) = k) (hN : (if x < (4 : Int32) then (4 : Int32) else (if (6 : Int32) < x then (4 : Int32) else x)) = (5 : Int32)) (hM : (if x < (4 : Int32) then (4 : Int32) else (if x ≤ (6 : Int32) then x else (4 : Int32))) = (5 : Int32)) (K : ∀ u5 u6 u7 : Option xm_V, xm_G (en 5 L) 8 true 145 43 [some (xm_r (40, 0, 0)), some (xm_r (0, 0, 0)), some (xm_r (20, 0, 0)), some (xm_r (30, 0, 0)), some (xm_i (nI 2)), u5, u6, u7] [] ((171, 1677), sf_5 fi x k, sl_5 fl, sq_5 r) R) : xm_G (en 5 L) 8 true 145 0 [some (xm_r (40, 0, 0)), none, none, none, none, none, none, none] [] ((0, 0), fi, fl, r) R := by
  refine pg_145_0 (a := (0, 0, 0)) (en_a (by decide +kernel)) (en_k (by decide +kernel)) ?_
  show xm_G (en 5 L) 8 true 145 3 [some (xm_r (40, 0, 0)), none, none, none, none, none, none, none] [xm_r (0, 0, 0)] ((1, 7), fi, fl, r) R
  refine pg_145_3 rfl ?_
  refine pg_145_4 rfl ?_
  refine pg_145_5 ?_
  refine pg_145_6 (Nat.le_of_ble_eq_true rfl) (ct_126 (k := 0) (L := L) en_sc hL (by decide)) ?_
  refine go_top (y := x) hx0 ?_
  show xm_G (en 5 L) 8 true 145 9 [some (xm_r (40, 0, 0)), none, none, none, none, none, none, none] [xm_i x, xm_r (0, 0, 0), xm_r (0, 0, 0)] ((1, 7), fi, fl, r) R
  refine pg_145_9 rfl ?_
  refine pg_145_10 ?_
  refine pg_145_11 (Nat.le_of_ble_eq_true rfl) (ct_126 (k := 1) (L := L) en_sc hL (by decide)) ?_
  refine go_top (y := k) hx1 ?_
  show xm_G (en 5 L) 8 true 145 14 [some (xm_r (40, 0, 0)), none, none, none, none, none, none, none] [xm_i k, xm_i x, xm_r (0, 0, 0), xm_r (0, 0, 0)] ((1, 7), fi, fl, r) R
  refine pg_145_14 (Nat.le_of_ble_eq_true rfl) (ct_0_5_0 hN) ?_
  show xm_G (en 5 L) 8 true 145 17 [some (xm_r (40, 0, 0)), none, none, none, none, none, none, none] [xm_r (0, 0, 0)] ((144, 591), (cf_0_5_0 fi x k), (cl_0_5_0 fl), (cr_0_5_0 r)) R
  refine pg_145_17 (lv' := [some (xm_r (40, 0, 0)), some (xm_r (0, 0, 0)), none, none, none, none, none, none]) rfl ?_
  refine pg_145_18 (a := (20, 0, 0)) (en_a (by decide +kernel)) (en_k (by decide +kernel)) ?_
  show xm_G (en 5 L) 8 true 145 21 [some (xm_r (40, 0, 0)), some (xm_r (0, 0, 0)), none, none, none, none, none, none] [xm_r (20, 0, 0)] ((145, 631), (cf_0_5_0 fi x k), (cl_0_5_0 fl), (cr_0_5_0 r)) R
  refine pg_145_21 rfl ?_
  refine pg_145_22 rfl ?_
  refine pg_145_23 ?_
  refine pg_145_24 (Nat.le_of_ble_eq_true rfl) (ct_126 (k := 0) (L := L) en_sc hL (by decide)) ?_
  refine go_top (y := x) hx0 ?_
  show xm_G (en 5 L) 8 true 145 27 [some (xm_r (40, 0, 0)), some (xm_r (0, 0, 0)), none, none, none, none, none, none] [xm_i x, xm_r (20, 0, 0), xm_r (20, 0, 0)] ((145, 631), (cf_0_5_0 fi x k), (cl_0_5_0 fl), (cr_0_5_0 r)) R
  refine pg_145_27 rfl ?_
  refine pg_145_28 ?_
  refine pg_145_29 (Nat.le_of_ble_eq_true rfl) (ct_126 (k := 1) (L := L) en_sc hL (by decide)) ?_
  refine go_top (y := k) hx1 ?_
  show xm_G (en 5 L) 8 true 145 32 [some (xm_r (40, 0, 0)), some (xm_r (0, 0, 0)), none, none, none, none, none, none] [xm_i k, xm_i x, xm_r (20, 0, 0), xm_r (20, 0, 0)] ((145, 631), (cf_0_5_0 fi x k), (cl_0_5_0 fl), (cr_0_5_0 r)) R
  refine pg_145_32 (Nat.le_of_ble_eq_true rfl) (ct_68_5_0 hM) ?_
  show xm_G (en 5 L) 8 true 145 35 [some (xm_r (40, 0, 0)), some (xm_r (0, 0, 0)), none, none, none, none, none, none] [xm_r (20, 0, 0)] ((170, 1676), (cf_68_5_0 (cf_0_5_0 fi x k) x k), (cl_0_5_0 fl), (cr_68_5_0 (cr_0_5_0 r))) R
  refine pg_145_35 (lv' := [some (xm_r (40, 0, 0)), some (xm_r (0, 0, 0)), some (xm_r (20, 0, 0)), none, none, none, none, none]) rfl ?_
  refine pg_145_36 ?_
  refine pg_145_37 (n := 1) (rfl : (1 : Int32) = nI 1) (by decide) (en_a (a := (30, 0, 0)) (by decide +kernel)) (en_k (by decide +kernel)) ?_
  show xm_G (en 5 L) 8 true 145 39 [some (xm_r (40, 0, 0)), some (xm_r (0, 0, 0)), some (xm_r (20, 0, 0)), none, none, none, none, none] [xm_r (30, 0, 0)] ((171, 1677), (cf_68_5_0 (cf_0_5_0 fi x k) x k), (cl_0_5_0 fl), (cr_68_5_0 (cr_0_5_0 r))) R
  refine pg_145_39 (lv' := [some (xm_r (40, 0, 0)), some (xm_r (0, 0, 0)), some (xm_r (20, 0, 0)), some (xm_r (30, 0, 0)), none, none, none, none]) rfl ?_
  refine pg_145_40 ?_
  refine pg_145_41 (lv' := [some (xm_r (40, 0, 0)), some (xm_r (0, 0, 0)), some (xm_r (20, 0, 0)), some (xm_r (30, 0, 0)), some (xm_i (2 : Int32)), none, none, none]) rfl ?_
  exact K _ _ _
def sf_6 (fi : FI) (x k : Int32) : FI := (cf_68_6_0 (cf_0_6_0 fi x k) x k)
def sl_6 (fl : FL) : FL := (cl_0_6_0 fl)
def sq_6 (r : xm_I → Nat → Option xm_I) : xm_I → Nat → Option xm_I := (cr_68_6_0 (cr_0_6_0 r))
set_option maxRecDepth 8000 in
theorem lw_start_6 {L : Nat} {fi : FI} {fl : FL} {r : xm_I → Nat → Option xm_I} {R : xm_O} {x k : Int32} (hL : L < 100000) (hx0 : (if 0 < L then fi (40, 0, 0) 0 else 0) = x) (hx1 : (if 1 < L then fi (40, 0, 0) 1 else 0) = k) (hN : (if x < (4 : Int32) then (4 : Int32) else (if (6 : Int32) < x then (4 : Int32) else x)) = (6 : Int32)) (hM : (if x < (4 : Int32) then (4 : Int32) else (if x ≤ (6 : Int32) then x else (4 : Int32))) = (6 : Int32)) (K : ∀ u5 u6 u7 : Option xm_V, xm_G (en 6 L) 8 true 145 43 [some (xm_r (40, 0, 0)), some (xm_r (0, 0, 0)), some (xm_r (20, 0, 0)), some (xm_r (30, 0, 0)), some (xm_i (nI 2)), u5, u6, u7] [] ((210, 1916), sf_6 fi x k, sl_6 fl, sq_6 r) R) : xm_G (en 6 L) 8 true 145 0 [some (xm_r (40, 0, 0)), none, none, none, none, none, none, none] [] ((0, 0), fi, fl, r) R := by
  refine pg_145_0 (a := (0, 0, 0)) (en_a (by decide +kernel)) (en_k (by decide +kernel)) ?_
  show xm_G (en 6 L) 8 true 145 3 [some (xm_r (40, 0, 0)), none, none, none, none, none, none, none] [xm_r (0, 0, 0)] ((1, 7), fi, fl, r) R
  refine pg_145_3 rfl ?_
  refine pg_145_4 rfl ?_
  refine pg_145_5 ?_
  refine pg_145_6 (Nat.le_of_ble_eq_true rfl) (ct_126 (k := 0) (L := L) en_sc hL (by decide)) ?_
  refine go_top (y := x) hx0 ?_
  show xm_G (en 6 L) 8 true 145 9 [some (xm_r (40, 0, 0)), none, none, none, none, none, none, none] [xm_i x, xm_r (0, 0, 0), xm_r (0, 0, 0)] ((1, 7), fi, fl, r) R
  refine pg_145_9 rfl ?_
  refine pg_145_10 ?_
  refine pg_145_11 (Nat.le_of_ble_eq_true rfl) (ct_126 (k := 1) (L := L) en_sc hL (by decide)) ?_
  refine go_top (y := k) hx1 ?_
  show xm_G (en 6 L) 8 true 145 14 [some (xm_r (40, 0, 0)), none, none, none, none, none, none, none] [xm_i k, xm_i x, xm_r (0, 0, 0), xm_r (0, 0, 0)] ((1, 7), fi, fl, r) R
  refine pg_145_14 (Nat.le_of_ble_eq_true rfl) (ct_0_6_0 hN) ?_
  show xm_G (en 6 L) 8 true 145 17 [some (xm_r (40, 0, 0)), none, none, none, none, none, none, none] [xm_r (0, 0, 0)] ((183, 830), (cf_0_6_0 fi x k), (cl_0_6_0 fl), (cr_0_6_0 r)) R
  refine pg_145_17 (lv' := [some (xm_r (40, 0, 0)), some (xm_r (0, 0, 0)), none, none, none, none, none, none]) rfl ?_
  refine pg_145_18 (a := (20, 0, 0)) (en_a (by decide +kernel)) (en_k (by decide +kernel)) ?_
  show xm_G (en 6 L) 8 true 145 21 [some (xm_r (40, 0, 0)), some (xm_r (0, 0, 0)), none, none, none, none, none, none] [xm_r (20, 0, 0)] ((184, 870), (cf_0_6_0 fi x k), (cl_0_6_0 fl), (cr_0_6_0 r)) R
  refine pg_145_21 rfl ?_
  refine pg_145_22 rfl ?_
  refine pg_145_23 ?_
  refine pg_145_24 (Nat.le_of_ble_eq_true rfl) (ct_126 (k := 0) (L := L) en_sc hL (by decide)) ?_
  refine go_top (y := x) hx0 ?_
  show xm_G (en 6 L) 8 true 145 27 [some (xm_r (40, 0, 0)), some (xm_r (0, 0, 0)), none, none, none, none, none, none] [xm_i x, xm_r (20, 0, 0), xm_r (20, 0, 0)] ((184, 870), (cf_0_6_0 fi x k), (cl_0_6_0 fl), (cr_0_6_0 r)) R
  refine pg_145_27 rfl ?_
  refine pg_145_28 ?_
  refine pg_145_29 (Nat.le_of_ble_eq_true rfl) (ct_126 (k := 1) (L := L) en_sc hL (by decide)) ?_
  refine go_top (y := k) hx1 ?_
  show xm_G (en 6 L) 8 true 145 32 [some (xm_r (40, 0, 0)), some (xm_r (0, 0, 0)), none, none, none, none, none, none] [xm_i k, xm_i x, xm_r (20, 0, 0), xm_r (20, 0, 0)] ((184, 870), (cf_0_6_0 fi x k), (cl_0_6_0 fl), (cr_0_6_0 r)) R
  refine pg_145_32 (Nat.le_of_ble_eq_true rfl) (ct_68_6_0 hM) ?_
  show xm_G (en 6 L) 8 true 145 35 [some (xm_r (40, 0, 0)), some (xm_r (0, 0, 0)), none, none, none, none, none, none] [xm_r (20, 0, 0)] ((209, 1915), (cf_68_6_0 (cf_0_6_0 fi x k) x k), (cl_0_6_0 fl), (cr_68_6_0 (cr_0_6_0 r))) R
  refine pg_145_35 (lv' := [some (xm_r (40, 0, 0)), some (xm_r (0, 0, 0)), some (xm_r (20, 0, 0)), none, none, none, none, none]) rfl ?_
  refine pg_145_36 ?_
  refine pg_145_37 (n := 1) (rfl : (1 : Int32) = nI 1) (by decide) (en_a (a := (30, 0, 0)) (by decide +kernel)) (en_k (by decide +kernel)) ?_
  show xm_G (en 6 L) 8 true 145 39 [some (xm_r (40, 0, 0)), some (xm_r (0, 0, 0)), some (xm_r (20, 0, 0)), none, none, none, none, none] [xm_r (30, 0, 0)] ((210, 1916), (cf_68_6_0 (cf_0_6_0 fi x k) x k), (cl_0_6_0 fl), (cr_68_6_0 (cr_0_6_0 r))) R
  refine pg_145_39 (lv' := [some (xm_r (40, 0, 0)), some (xm_r (0, 0, 0)), some (xm_r (20, 0, 0)), some (xm_r (30, 0, 0)), none, none, none, none]) rfl ?_
  refine pg_145_40 ?_
  refine pg_145_41 (lv' := [some (xm_r (40, 0, 0)), some (xm_r (0, 0, 0)), some (xm_r (20, 0, 0)), some (xm_r (30, 0, 0)), some (xm_i (2 : Int32)), none, none, none]) rfl ?_
  exact K _ _ _
