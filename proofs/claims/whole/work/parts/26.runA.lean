/-! Functions and contracts: Contents, Frames, numbers. Written by wip/whole/prog. -/
-- 1: bitsBelow
def sp_1 (x : Int32) : Int32 := (((1 : Int32) <<< (x &&& 31)) - (1 : Int32))
set_option maxRecDepth 4000 in
theorem ct_1 {E : xm_E} {h : xm_H} {d : Nat} {md : Bool} {x : Int32} : xm_C E (d + 1) md 1 [xm_i x] h (.inl (some (xm_i (sp_1 x))), h) := by
  suffices key : ∀ R : xm_O, ((.inl (some (xm_i (sp_1 x))), h) : xm_O) = R → xm_G E (d + 0) md 1 0 [some (xm_i x)] [] h R from go_inr (by decide) (Nat.le_of_ble_eq_true rfl) (key _ rfl)
  intro R hR
  refine pg_1_0 ?_
  refine pg_1_1 rfl ?_
  refine pg_1_2 ?_
  refine pg_1_3 ?_
  refine pg_1_4 ?_
  exact go_eq (hR.symm.trans (by unfold sp_1; all_goals rfl)) (pg_1_5)
-- 142: Math.min
def sp_142 (x : Int64) (y : Int64) : Int64 := if 0 < (lg_cmp x y) then (y) else (x)
set_option maxRecDepth 4000 in
theorem ct_142 {E : xm_E} {h : xm_H} {d : Nat} {md : Bool} {x : Int64} {y : Int64} : xm_C E (d + 1) md 142 [xm_l x, xm_l y] h (.inl (some (xm_l (sp_142 x y))), h) := by
  suffices key : ∀ R : xm_O, ((.inl (some (xm_l (sp_142 x y))), h) : xm_O) = R → xm_G E (d + 0) md 142 0 [some (xm_l x), none, some (xm_l y), none] [] h R from go_inr (by decide) (Nat.le_of_ble_eq_true rfl) (key _ rfl)
  intro R hR
  refine pg_142_0 rfl ?_
  refine pg_142_1 rfl ?_
  refine pg_142_2 ?_
  refine pg_142_3 (fun hc1 => ?_) (fun hc2 => ?_)
  · refine pg_142_10 rfl ?_
    exact go_eq (hR.symm.trans (by unfold sp_142; try rw [if_pos hc1]; all_goals rfl)) (pg_142_11)
  · refine pg_142_6 rfl ?_
    refine pg_142_7 ?_
    exact go_eq (hR.symm.trans (by unfold sp_142; try rw [if_neg hc2]; all_goals rfl)) (pg_142_11)
-- 143: Math.max
def sp_143 (x : Int64) (y : Int64) : Int64 := if (lg_cmp x y) < 0 then (y) else (x)
set_option maxRecDepth 4000 in
theorem ct_143 {E : xm_E} {h : xm_H} {d : Nat} {md : Bool} {x : Int64} {y : Int64} : xm_C E (d + 1) md 143 [xm_l x, xm_l y] h (.inl (some (xm_l (sp_143 x y))), h) := by
  suffices key : ∀ R : xm_O, ((.inl (some (xm_l (sp_143 x y))), h) : xm_O) = R → xm_G E (d + 0) md 143 0 [some (xm_l x), none, some (xm_l y), none] [] h R from go_inr (by decide) (Nat.le_of_ble_eq_true rfl) (key _ rfl)
  intro R hR
  refine pg_143_0 rfl ?_
  refine pg_143_1 rfl ?_
  refine pg_143_2 ?_
  refine pg_143_3 (fun hc1 => ?_) (fun hc2 => ?_)
  · refine pg_143_10 rfl ?_
    exact go_eq (hR.symm.trans (by unfold sp_143; try rw [if_pos hc1]; all_goals rfl)) (pg_143_11)
  · refine pg_143_6 rfl ?_
    refine pg_143_7 ?_
    exact go_eq (hR.symm.trans (by unfold sp_143; try rw [if_neg hc2]; all_goals rfl)) (pg_143_11)
-- 144: Integer.bitCount
def sp_144 (x : Int32) : Int32 := ((((((((x - (((x.toUInt32 >>> ((1 : Int32).toUInt32 &&& Int32.toUInt32 31)).toInt32) &&& (1431655765 : Int32))) &&& (858993459 : Int32)) + ((((x - (((x.toUInt32 >>> ((1 : Int32).toUInt32 &&& Int32.toUInt32 31)).toInt32) &&& (1431655765 : Int32))).toUInt32 >>> ((2 : Int32).toUInt32 &&& Int32.toUInt32 31)).toInt32) &&& (858993459 : Int32))) + (((((x - (((x.toUInt32 >>> ((1 : Int32).toUInt32 &&& Int32.toUInt32 31)).toInt32) &&& (1431655765 : Int32))) &&& (858993459 : Int32)) + ((((x - (((x.toUInt32 >>> ((1 : Int32).toUInt32 &&& Int32.toUInt32 31)).toInt32) &&& (1431655765 : Int32))).toUInt32 >>> ((2 : Int32).toUInt32 &&& Int32.toUInt32 31)).toInt32) &&& (858993459 : Int32))).toUInt32 >>> ((4 : Int32).toUInt32 &&& Int32.toUInt32 31)).toInt32)) &&& (252645135 : Int32)) + (((((((x - (((x.toUInt32 >>> ((1 : Int32).toUInt32 &&& Int32.toUInt32 31)).toInt32) &&& (1431655765 : Int32))) &&& (858993459 : Int32)) + ((((x - (((x.toUInt32 >>> ((1 : Int32).toUInt32 &&& Int32.toUInt32 31)).toInt32) &&& (1431655765 : Int32))).toUInt32 >>> ((2 : Int32).toUInt32 &&& Int32.toUInt32 31)).toInt32) &&& (858993459 : Int32))) + (((((x - (((x.toUInt32 >>> ((1 : Int32).toUInt32 &&& Int32.toUInt32 31)).toInt32) &&& (1431655765 : Int32))) &&& (858993459 : Int32)) + ((((x - (((x.toUInt32 >>> ((1 : Int32).toUInt32 &&& Int32.toUInt32 31)).toInt32) &&& (1431655765 : Int32))).toUInt32 >>> ((2 : Int32).toUInt32 &&& Int32.toUInt32 31)).toInt32) &&& (858993459 : Int32))).toUInt32 >>> ((4 : Int32).toUInt32 &&& Int32.toUInt32 31)).toInt32)) &&& (252645135 : Int32)).toUInt32 >>> ((8 : Int32).toUInt32 &&& Int32.toUInt32 31)).toInt32)) + ((((((((x - (((x.toUInt32 >>> ((1 : Int32).toUInt32 &&& Int32.toUInt32 31)).toInt32) &&& (1431655765 : Int32))) &&& (858993459 : Int32)) + ((((x - (((x.toUInt32 >>> ((1 : Int32).toUInt32 &&& Int32.toUInt32 31)).toInt32) &&& (1431655765 : Int32))).toUInt32 >>> ((2 : Int32).toUInt32 &&& Int32.toUInt32 31)).toInt32) &&& (858993459 : Int32))) + (((((x - (((x.toUInt32 >>> ((1 : Int32).toUInt32 &&& Int32.toUInt32 31)).toInt32) &&& (1431655765 : Int32))) &&& (858993459 : Int32)) + ((((x - (((x.toUInt32 >>> ((1 : Int32).toUInt32 &&& Int32.toUInt32 31)).toInt32) &&& (1431655765 : Int32))).toUInt32 >>> ((2 : Int32).toUInt32 &&& Int32.toUInt32 31)).toInt32) &&& (858993459 : Int32))).toUInt32 >>> ((4 : Int32).toUInt32 &&& Int32.toUInt32 31)).toInt32)) &&& (252645135 : Int32)) + (((((((x - (((x.toUInt32 >>> ((1 : Int32).toUInt32 &&& Int32.toUInt32 31)).toInt32) &&& (1431655765 : Int32))) &&& (858993459 : Int32)) + ((((x - (((x.toUInt32 >>> ((1 : Int32).toUInt32 &&& Int32.toUInt32 31)).toInt32) &&& (1431655765 : Int32))).toUInt32 >>> ((2 : Int32).toUInt32 &&& Int32.toUInt32 31)).toInt32) &&& (858993459 : Int32))) + (((((x - (((x.toUInt32 >>> ((1 : Int32).toUInt32 &&& Int32.toUInt32 31)).toInt32) &&& (1431655765 : Int32))) &&& (858993459 : Int32)) + ((((x - (((x.toUInt32 >>> ((1 : Int32).toUInt32 &&& Int32.toUInt32 31)).toInt32) &&& (1431655765 : Int32))).toUInt32 >>> ((2 : Int32).toUInt32 &&& Int32.toUInt32 31)).toInt32) &&& (858993459 : Int32))).toUInt32 >>> ((4 : Int32).toUInt32 &&& Int32.toUInt32 31)).toInt32)) &&& (252645135 : Int32)).toUInt32 >>> ((8 : Int32).toUInt32 &&& Int32.toUInt32 31)).toInt32)).toUInt32 >>> ((16 : Int32).toUInt32 &&& Int32.toUInt32 31)).toInt32)) &&& (63 : Int32))
set_option maxRecDepth 4000 in
theorem ct_144 {E : xm_E} {h : xm_H} {d : Nat} {md : Bool} {x : Int32} : xm_C E (d + 1) md 144 [xm_i x] h (.inl (some (xm_i (sp_144 x))), h) := by
  suffices key : ∀ R : xm_O, ((.inl (some (xm_i (sp_144 x))), h) : xm_O) = R → xm_G E (d + 0) md 144 0 [some (xm_i x)] [] h R from go_inr (by decide) (Nat.le_of_ble_eq_true rfl) (key _ rfl)
  intro R hR
  refine pg_144_0 rfl ?_
  refine pg_144_1 rfl ?_
  refine pg_144_2 ?_
  refine pg_144_3 ?_
  refine pg_144_4 ?_
  refine pg_144_7 ?_
  refine pg_144_8 ?_
  refine pg_144_9 (lv' := [some (xm_i (x - (((x.toUInt32 >>> ((1 : Int32).toUInt32 &&& Int32.toUInt32 31)).toInt32) &&& (1431655765 : Int32))))]) rfl ?_
  refine pg_144_10 rfl ?_
  refine pg_144_11 ?_
  refine pg_144_14 ?_
  refine pg_144_15 rfl ?_
  refine pg_144_16 ?_
  refine pg_144_17 ?_
  refine pg_144_18 ?_
  refine pg_144_21 ?_
  refine pg_144_22 ?_
  refine pg_144_23 (lv' := [some (xm_i (((x - (((x.toUInt32 >>> ((1 : Int32).toUInt32 &&& Int32.toUInt32 31)).toInt32) &&& (1431655765 : Int32))) &&& (858993459 : Int32)) + ((((x - (((x.toUInt32 >>> ((1 : Int32).toUInt32 &&& Int32.toUInt32 31)).toInt32) &&& (1431655765 : Int32))).toUInt32 >>> ((2 : Int32).toUInt32 &&& Int32.toUInt32 31)).toInt32) &&& (858993459 : Int32))))]) rfl ?_
  refine pg_144_24 rfl ?_
  refine pg_144_25 rfl ?_
  refine pg_144_26 ?_
  refine pg_144_27 ?_
  refine pg_144_28 ?_
  refine pg_144_29 ?_
  refine pg_144_32 ?_
  refine pg_144_33 (lv' := [some (xm_i (((((x - (((x.toUInt32 >>> ((1 : Int32).toUInt32 &&& Int32.toUInt32 31)).toInt32) &&& (1431655765 : Int32))) &&& (858993459 : Int32)) + ((((x - (((x.toUInt32 >>> ((1 : Int32).toUInt32 &&& Int32.toUInt32 31)).toInt32) &&& (1431655765 : Int32))).toUInt32 >>> ((2 : Int32).toUInt32 &&& Int32.toUInt32 31)).toInt32) &&& (858993459 : Int32))) + (((((x - (((x.toUInt32 >>> ((1 : Int32).toUInt32 &&& Int32.toUInt32 31)).toInt32) &&& (1431655765 : Int32))) &&& (858993459 : Int32)) + ((((x - (((x.toUInt32 >>> ((1 : Int32).toUInt32 &&& Int32.toUInt32 31)).toInt32) &&& (1431655765 : Int32))).toUInt32 >>> ((2 : Int32).toUInt32 &&& Int32.toUInt32 31)).toInt32) &&& (858993459 : Int32))).toUInt32 >>> ((4 : Int32).toUInt32 &&& Int32.toUInt32 31)).toInt32)) &&& (252645135 : Int32)))]) rfl ?_
  refine pg_144_34 rfl ?_
  refine pg_144_35 rfl ?_
  refine pg_144_36 ?_
  refine pg_144_38 ?_
  refine pg_144_39 ?_
  refine pg_144_40 (lv' := [some (xm_i ((((((x - (((x.toUInt32 >>> ((1 : Int32).toUInt32 &&& Int32.toUInt32 31)).toInt32) &&& (1431655765 : Int32))) &&& (858993459 : Int32)) + ((((x - (((x.toUInt32 >>> ((1 : Int32).toUInt32 &&& Int32.toUInt32 31)).toInt32) &&& (1431655765 : Int32))).toUInt32 >>> ((2 : Int32).toUInt32 &&& Int32.toUInt32 31)).toInt32) &&& (858993459 : Int32))) + (((((x - (((x.toUInt32 >>> ((1 : Int32).toUInt32 &&& Int32.toUInt32 31)).toInt32) &&& (1431655765 : Int32))) &&& (858993459 : Int32)) + ((((x - (((x.toUInt32 >>> ((1 : Int32).toUInt32 &&& Int32.toUInt32 31)).toInt32) &&& (1431655765 : Int32))).toUInt32 >>> ((2 : Int32).toUInt32 &&& Int32.toUInt32 31)).toInt32) &&& (858993459 : Int32))).toUInt32 >>> ((4 : Int32).toUInt32 &&& Int32.toUInt32 31)).toInt32)) &&& (252645135 : Int32)) + (((((((x - (((x.toUInt32 >>> ((1 : Int32).toUInt32 &&& Int32.toUInt32 31)).toInt32) &&& (1431655765 : Int32))) &&& (858993459 : Int32)) + ((((x - (((x.toUInt32 >>> ((1 : Int32).toUInt32 &&& Int32.toUInt32 31)).toInt32) &&& (1431655765 : Int32))).toUInt32 >>> ((2 : Int32).toUInt32 &&& Int32.toUInt32 31)).toInt32) &&& (858993459 : Int32))) + (((((x - (((x.toUInt32 >>> ((1 : Int32).toUInt32 &&& Int32.toUInt32 31)).toInt32) &&& (1431655765 : Int32))) &&& (858993459 : Int32)) + ((((x - (((x.toUInt32 >>> ((1 : Int32).toUInt32 &&& Int32.toUInt32 31)).toInt32) &&& (1431655765 : Int32))).toUInt32 >>> ((2 : Int32).toUInt32 &&& Int32.toUInt32 31)).toInt32) &&& (858993459 : Int32))).toUInt32 >>> ((4 : Int32).toUInt32 &&& Int32.toUInt32 31)).toInt32)) &&& (252645135 : Int32)).toUInt32 >>> ((8 : Int32).toUInt32 &&& Int32.toUInt32 31)).toInt32)))]) rfl ?_
  refine pg_144_41 rfl ?_
  refine pg_144_42 rfl ?_
  refine pg_144_43 ?_
  refine pg_144_45 ?_
  refine pg_144_46 ?_
  refine pg_144_47 (lv' := [some (xm_i (((((((x - (((x.toUInt32 >>> ((1 : Int32).toUInt32 &&& Int32.toUInt32 31)).toInt32) &&& (1431655765 : Int32))) &&& (858993459 : Int32)) + ((((x - (((x.toUInt32 >>> ((1 : Int32).toUInt32 &&& Int32.toUInt32 31)).toInt32) &&& (1431655765 : Int32))).toUInt32 >>> ((2 : Int32).toUInt32 &&& Int32.toUInt32 31)).toInt32) &&& (858993459 : Int32))) + (((((x - (((x.toUInt32 >>> ((1 : Int32).toUInt32 &&& Int32.toUInt32 31)).toInt32) &&& (1431655765 : Int32))) &&& (858993459 : Int32)) + ((((x - (((x.toUInt32 >>> ((1 : Int32).toUInt32 &&& Int32.toUInt32 31)).toInt32) &&& (1431655765 : Int32))).toUInt32 >>> ((2 : Int32).toUInt32 &&& Int32.toUInt32 31)).toInt32) &&& (858993459 : Int32))).toUInt32 >>> ((4 : Int32).toUInt32 &&& Int32.toUInt32 31)).toInt32)) &&& (252645135 : Int32)) + (((((((x - (((x.toUInt32 >>> ((1 : Int32).toUInt32 &&& Int32.toUInt32 31)).toInt32) &&& (1431655765 : Int32))) &&& (858993459 : Int32)) + ((((x - (((x.toUInt32 >>> ((1 : Int32).toUInt32 &&& Int32.toUInt32 31)).toInt32) &&& (1431655765 : Int32))).toUInt32 >>> ((2 : Int32).toUInt32 &&& Int32.toUInt32 31)).toInt32) &&& (858993459 : Int32))) + (((((x - (((x.toUInt32 >>> ((1 : Int32).toUInt32 &&& Int32.toUInt32 31)).toInt32) &&& (1431655765 : Int32))) &&& (858993459 : Int32)) + ((((x - (((x.toUInt32 >>> ((1 : Int32).toUInt32 &&& Int32.toUInt32 31)).toInt32) &&& (1431655765 : Int32))).toUInt32 >>> ((2 : Int32).toUInt32 &&& Int32.toUInt32 31)).toInt32) &&& (858993459 : Int32))).toUInt32 >>> ((4 : Int32).toUInt32 &&& Int32.toUInt32 31)).toInt32)) &&& (252645135 : Int32)).toUInt32 >>> ((8 : Int32).toUInt32 &&& Int32.toUInt32 31)).toInt32)) + ((((((((x - (((x.toUInt32 >>> ((1 : Int32).toUInt32 &&& Int32.toUInt32 31)).toInt32) &&& (1431655765 : Int32))) &&& (858993459 : Int32)) + ((((x - (((x.toUInt32 >>> ((1 : Int32).toUInt32 &&& Int32.toUInt32 31)).toInt32) &&& (1431655765 : Int32))).toUInt32 >>> ((2 : Int32).toUInt32 &&& Int32.toUInt32 31)).toInt32) &&& (858993459 : Int32))) + (((((x - (((x.toUInt32 >>> ((1 : Int32).toUInt32 &&& Int32.toUInt32 31)).toInt32) &&& (1431655765 : Int32))) &&& (858993459 : Int32)) + ((((x - (((x.toUInt32 >>> ((1 : Int32).toUInt32 &&& Int32.toUInt32 31)).toInt32) &&& (1431655765 : Int32))).toUInt32 >>> ((2 : Int32).toUInt32 &&& Int32.toUInt32 31)).toInt32) &&& (858993459 : Int32))).toUInt32 >>> ((4 : Int32).toUInt32 &&& Int32.toUInt32 31)).toInt32)) &&& (252645135 : Int32)) + (((((((x - (((x.toUInt32 >>> ((1 : Int32).toUInt32 &&& Int32.toUInt32 31)).toInt32) &&& (1431655765 : Int32))) &&& (858993459 : Int32)) + ((((x - (((x.toUInt32 >>> ((1 : Int32).toUInt32 &&& Int32.toUInt32 31)).toInt32) &&& (1431655765 : Int32))).toUInt32 >>> ((2 : Int32).toUInt32 &&& Int32.toUInt32 31)).toInt32) &&& (858993459 : Int32))) + (((((x - (((x.toUInt32 >>> ((1 : Int32).toUInt32 &&& Int32.toUInt32 31)).toInt32) &&& (1431655765 : Int32))) &&& (858993459 : Int32)) + ((((x - (((x.toUInt32 >>> ((1 : Int32).toUInt32 &&& Int32.toUInt32 31)).toInt32) &&& (1431655765 : Int32))).toUInt32 >>> ((2 : Int32).toUInt32 &&& Int32.toUInt32 31)).toInt32) &&& (858993459 : Int32))).toUInt32 >>> ((4 : Int32).toUInt32 &&& Int32.toUInt32 31)).toInt32)) &&& (252645135 : Int32)).toUInt32 >>> ((8 : Int32).toUInt32 &&& Int32.toUInt32 31)).toInt32)).toUInt32 >>> ((16 : Int32).toUInt32 &&& Int32.toUInt32 31)).toInt32)))]) rfl ?_
  refine pg_144_48 rfl ?_
  refine pg_144_49 ?_
  refine pg_144_51 ?_
  exact go_eq (hR.symm.trans (by unfold sp_144; all_goals rfl)) (pg_144_52)
-- 62: Contents.clear
def sp_62 (fi : FI) (i : Nat) (k : Nat) : FI := (xm_up fi (9, i, k) 1 (0 : Int32))
theorem kp_sp_62 (fi : FI) (i : Nat) (k : Nat) : kp [900] fi (sp_62 fi i k) := by
  unfold sp_62
  exact (kp_up (kp_re [900] fi) rfl)
set_option maxRecDepth 4000 in
theorem ct_62 {n : Nat} {E : xm_E} {c : Nat × Nat} {fi : FI} {fl : FL} {r : xm_I → Nat → Option xm_I} {d : Nat} {i : Nat} {k : Nat} (hs : sh n E c r) (hq : sh_cq n i k) : xm_C E (d + 1) true 62 [xm_r (9, i, k)] (c, fi, fl, r) (.inl (none), (c, (sp_62 fi i k), fl, r)) := by
  have hn := sh_n hs
  suffices key : ∀ R : xm_O, ((.inl (none), (c, (sp_62 fi i k), fl, r)) : xm_O) = R → xm_G E (d + 0) true 62 0 [some (xm_r (9, i, k))] [] (c, fi, fl, r) R from go_inr (by decide) (Nat.le_of_ble_eq_true rfl) (key _ rfl)
  intro R hR
  refine pg_62_0 rfl ?_
  refine pg_62_1 ?_
  refine pg_62_2 (sk9 hs (i := i) (k := k) hq) ?_
  exact go_eq (hR.symm.trans (by unfold sp_62; all_goals rfl)) (pg_62_5)
-- 63: Contents.put
def sp_63 (fi : FI) (i : Nat) (k : Nat) (p : Nat) (x : Int32) : FI := (xm_up (xm_up fi (10, i, k) p x) (9, i, k) 1 ((fi (9, i, k) 1) ||| ((1 : Int32) <<< ((nI p) &&& 31))))
theorem kp_sp_63 (fi : FI) (i : Nat) (k : Nat) (p : Nat) (x : Int32) : kp [900, 1000] fi (sp_63 fi i k p x) := by
  unfold sp_63
  exact (kp_up (kp_up (kp_re [900, 1000] fi) rfl) rfl)
set_option maxRecDepth 4000 in
theorem ct_63 {n : Nat} {E : xm_E} {c : Nat × Nat} {fi : FI} {fl : FL} {r : xm_I → Nat → Option xm_I} {d : Nat} {i : Nat} {k : Nat} {p : Nat} {x : Int32} (hs : sh n E c r) (hq : sh_cq n i k) (hp : p < n) : xm_C E (d + 1) true 63 [xm_r (9, i, k), xm_i (nI p), xm_i x] (c, fi, fl, r) (.inl (none), (c, (sp_63 fi i k p x), fl, r)) := by
  have hn := sh_n hs
  suffices key : ∀ R : xm_O, ((.inl (none), (c, (sp_63 fi i k p x), fl, r)) : xm_O) = R → xm_G E (d + 0) true 63 0 [some (xm_r (9, i, k)), some (xm_i (nI p)), some (xm_i x)] [] (c, fi, fl, r) R from go_inr (by decide) (Nat.le_of_ble_eq_true rfl) (key _ rfl)
  intro R hR
  refine pg_63_0 rfl ?_
  refine pg_63_1 (sk9 hs (i := i) (k := k) hq) (sr9_0 hs (i := i) (k := k) hq) ?_
  refine pg_63_4 rfl ?_
  refine pg_63_5 rfl ?_
  refine pg_63_6 (sk10 hs (i := i) (k := k) hq) (i := p) rfl (by omega) (by omega) ?_
  refine pg_63_7 rfl ?_
  refine pg_63_8 rfl ?_
  refine pg_63_9 (sk9 hs (i := i) (k := k) hq) ?_
  refine go_top (y := (fi (9, i, k) 1)) (by simp [xm_up]) ?_
  refine pg_63_12 ?_
  refine pg_63_13 rfl ?_
  refine pg_63_14 ?_
  refine pg_63_15 ?_
  refine pg_63_16 (sk9 hs (i := i) (k := k) hq) ?_
  exact go_eq (hR.symm.trans (by unfold sp_63; all_goals rfl)) (pg_63_19)
-- 64: Contents.has
def sp_64 (fi : FI) (i : Nat) (k : Nat) (p : Nat) : Bool := if (((fi (9, i, k) 1) >>> ((nI p) &&& 31)) &&& (1 : Int32)) = 0 then (false) else (true)
set_option maxRecDepth 4000 in
theorem ct_64 {n : Nat} {E : xm_E} {c : Nat × Nat} {fi : FI} {fl : FL} {r : xm_I → Nat → Option xm_I} {d : Nat} {md : Bool} {i : Nat} {k : Nat} {p : Nat} (hs : sh n E c r) (hq : sh_cq n i k) (hp : p < n) : xm_C E (d + 1) md 64 [xm_r (9, i, k), xm_i (nI p)] (c, fi, fl, r) (.inl (some (xm_i (bI (sp_64 fi i k p)))), (c, fi, fl, r)) := by
  have hn := sh_n hs
  suffices key : ∀ R : xm_O, ((.inl (some (xm_i (bI (sp_64 fi i k p)))), (c, fi, fl, r)) : xm_O) = R → xm_G E (d + 0) md 64 0 [some (xm_r (9, i, k)), some (xm_i (nI p))] [] (c, fi, fl, r) R from go_inr (by decide) (Nat.le_of_ble_eq_true rfl) (key _ rfl)
  intro R hR
  refine pg_64_0 rfl ?_
  refine pg_64_1 (sk9 hs (i := i) (k := k) hq) ?_
  refine pg_64_4 rfl ?_
  refine pg_64_5 ?_
  refine pg_64_6 ?_
  refine pg_64_7 ?_
  refine pg_64_8 (fun hc1 => ?_) (fun hc2 => ?_)
  · refine pg_64_15 ?_
    exact go_eq (hR.symm.trans (by unfold sp_64; try rw [if_pos hc1]; all_goals rfl)) (pg_64_16 (Or.inl rfl))
  · refine pg_64_11 ?_
    refine pg_64_12 ?_
    exact go_eq (hR.symm.trans (by unfold sp_64; try rw [if_neg hc2]; all_goals rfl)) (pg_64_16 (Or.inr rfl))
-- 65: Contents.at
def sp_65 (fi : FI) (i : Nat) (k : Nat) (p : Nat) : Int32 := (fi (10, i, k) p)
set_option maxRecDepth 4000 in
theorem ct_65 {n : Nat} {E : xm_E} {c : Nat × Nat} {fi : FI} {fl : FL} {r : xm_I → Nat → Option xm_I} {d : Nat} {md : Bool} {i : Nat} {k : Nat} {p : Nat} (hs : sh n E c r) (hq : sh_cq n i k) (hp : p < n) : xm_C E (d + 1) md 65 [xm_r (9, i, k), xm_i (nI p)] (c, fi, fl, r) (.inl (some (xm_i (sp_65 fi i k p))), (c, fi, fl, r)) := by
  have hn := sh_n hs
  suffices key : ∀ R : xm_O, ((.inl (some (xm_i (sp_65 fi i k p))), (c, fi, fl, r)) : xm_O) = R → xm_G E (d + 0) md 65 0 [some (xm_r (9, i, k)), some (xm_i (nI p))] [] (c, fi, fl, r) R from go_inr (by decide) (Nat.le_of_ble_eq_true rfl) (key _ rfl)
  intro R hR
  refine pg_65_0 rfl ?_
  refine pg_65_1 (sk9 hs (i := i) (k := k) hq) (sr9_0 hs (i := i) (k := k) hq) ?_
  refine pg_65_4 rfl ?_
  refine pg_65_5 (Or.inl (sk10 hs (i := i) (k := k) hq)) (i := p) rfl (by omega) (by omega) ?_
  exact go_eq (hR.symm.trans (by unfold sp_65; all_goals rfl)) (pg_65_6)
-- 67: Contents.votesFor
def sp_67_5 (fi : FI) (i : Nat) (k : Nat) (x : Int32) (v : Int32) (i1 : Nat) (s1 : Nat) : Nat := if ((v >>> ((nI i1) &&& 31)) &&& (1 : Int32)) = 0 then (s1) else (if (fi (10, i, k) i1) = x then (s1 + 1) else (s1))
def sp_67 (n : Nat) (fi : FI) (i : Nat) (k : Nat) (x : Int32) (v : Int32) : Nat := (lq_it n (sp_67_5 fi i k x v) 0)
set_option maxRecDepth 4000 in
theorem ct_67 {n : Nat} {E : xm_E} {c : Nat × Nat} {fi : FI} {fl : FL} {r : xm_I → Nat → Option xm_I} {d : Nat} {md : Bool} {i : Nat} {k : Nat} {x : Int32} {v : Int32} (hs : sh n E c r) (hq : sh_cq n i k) : xm_C E (d + 1) md 67 [xm_r (9, i, k), xm_i x, xm_i v] (c, fi, fl, r) (.inl (some (xm_i (nI (sp_67 n fi i k x v)))), (c, fi, fl, r)) := by
  have hn := sh_n hs
  suffices key : ∀ R : xm_O, ((.inl (some (xm_i (nI (sp_67 n fi i k x v)))), (c, fi, fl, r)) : xm_O) = R → xm_G E (d + 0) md 67 0 [some (xm_r (9, i, k)), some (xm_i x), some (xm_i v), none, none] [] (c, fi, fl, r) R from go_inr (by decide) (Nat.le_of_ble_eq_true rfl) (key _ rfl)
  intro R hR
  refine pg_67_0 ?_
  refine pg_67_1 (lv' := [some (xm_r (9, i, k)), some (xm_i x), some (xm_i v), some (xm_i (0 : Int32)), none]) rfl ?_
  refine pg_67_2 ?_
  refine pg_67_3 (lv' := [some (xm_r (9, i, k)), some (xm_i x), some (xm_i v), some (xm_i (0 : Int32)), some (xm_i (0 : Int32))]) rfl ?_
  refine (lq_loop (N := n) (f := sp_67_5 fi i k x v) (s0 := 0) (P := fun i1 s1 => xm_G E (d + 0) md 67 5 [some (xm_r (9, i, k)), some (xm_i x), some (xm_i v), some (xm_i (nI s1)), some (xm_i (nI i1))] [] (c, fi, fl, r) R) ?_ ?_)
  · intro i1 s1 hi1 K1
    show xm_G E (d + 0) md 67 5 [some (xm_r (9, i, k)), some (xm_i x), some (xm_i v), some (xm_i (nI s1)), some (xm_i (nI i1))] [] (c, fi, fl, r) R
    refine pg_67_5 rfl ?_
    refine pg_67_7 rfl ?_
    refine pg_67_8 (sk9 hs (i := i) (k := k) hq) (sr9_0 hs (i := i) (k := k) hq) ?_
    refine pg_67_11 (Or.inr ⟨(sk10 hs (i := i) (k := k) hq), (Or.inl rfl)⟩) ?_
    refine pg_67_12 (fun hc => absurd hc (nx_nle (a := i1) (b := n) rfl rfl (by omega) (by omega))) (fun _ => ?_)
    refine pg_67_15 rfl ?_
    refine pg_67_16 rfl ?_
    refine pg_67_18 ?_
    refine pg_67_19 ?_
    refine pg_67_20 ?_
    refine pg_67_21 (fun hc1 => ?_) (fun hc2 => ?_)
    · refine pg_67_38 (y := (nI (i1 + 1))) (lv' := [some (xm_r (9, i, k)), some (xm_i x), some (xm_i v), some (xm_i (nI s1)), some (xm_i (nI (i1 + 1)))]) rfl (nI_1 i1) rfl ?_
      refine pg_67_41 ?_
      exact K1 s1 (by unfold sp_67_5; try rw [if_pos hc1]; all_goals rfl)
    · refine pg_67_24 rfl ?_
      refine pg_67_25 (sk9 hs (i := i) (k := k) hq) (sr9_0 hs (i := i) (k := k) hq) ?_
      refine pg_67_28 rfl ?_
      refine pg_67_30 (Or.inl (sk10 hs (i := i) (k := k) hq)) (i := i1) rfl (by omega) (by omega) ?_
      refine pg_67_31 rfl ?_
      refine pg_67_32 (fun hc3 => ?_) (fun hc4 => ?_)
      · refine pg_67_38 (y := (nI (i1 + 1))) (lv' := [some (xm_r (9, i, k)), some (xm_i x), some (xm_i v), some (xm_i (nI s1)), some (xm_i (nI (i1 + 1)))]) rfl (nI_1 i1) rfl ?_
        refine pg_67_41 ?_
        exact K1 s1 (by unfold sp_67_5; try rw [if_neg hc2]; try rw [if_neg hc3]; all_goals rfl)
      · refine pg_67_35 (y := (nI (s1 + 1))) (lv' := [some (xm_r (9, i, k)), some (xm_i x), some (xm_i v), some (xm_i (nI (s1 + 1))), some (xm_i (nI i1))]) rfl (nI_1 s1) rfl ?_
        refine pg_67_38 (y := (nI (i1 + 1))) (lv' := [some (xm_r (9, i, k)), some (xm_i x), some (xm_i v), some (xm_i (nI (s1 + 1))), some (xm_i (nI (i1 + 1)))]) rfl (nI_1 i1) rfl ?_
        refine pg_67_41 ?_
        exact K1 (s1 + 1) (by unfold sp_67_5; try rw [if_neg hc2]; try rw [if_pos hc4]; all_goals rfl)
  · skip
    show xm_G E (d + 0) md 67 5 [some (xm_r (9, i, k)), some (xm_i x), some (xm_i v), some (xm_i (nI (lq_it n (sp_67_5 fi i k x v) 0))), some (xm_i (nI n))] [] (c, fi, fl, r) R
    refine pg_67_5 rfl ?_
    refine pg_67_7 rfl ?_
    refine pg_67_8 (sk9 hs (i := i) (k := k) hq) (sr9_0 hs (i := i) (k := k) hq) ?_
    refine pg_67_11 (Or.inr ⟨(sk10 hs (i := i) (k := k) hq), (Or.inl rfl)⟩) ?_
    refine pg_67_12 (fun _ => ?_) (fun hc => absurd (nx_le (a := n) (b := n) rfl rfl (by omega) (by omega)) hc)
    refine pg_67_44 rfl ?_
    exact go_eq (hR.symm.trans (by unfold sp_67; all_goals rfl)) (pg_67_45)
-- 66: Contents.placeOfMajority
def sp_66_9 (n : Nat) (fi : FI) (i : Nat) (k : Nat) (v : Int32) : Nat → Nat → Int32
  | 0, _ => (-1 : Int32)
  | m + 1, i1 => if ((((fi (9, i, k) 1) &&& v) >>> ((nI i1) &&& 31)) &&& (1 : Int32)) = 0 then (sp_66_9 n fi i k v m (i1 + 1)) else (if ((2 : Int32) * (nI (sp_67 n fi i k (fi (10, i, k) i1) ((fi (9, i, k) 1) &&& v)))) ≤ (sp_144 v) then (sp_66_9 n fi i k v m (i1 + 1)) else ((nI i1)))
def sp_66 (n : Nat) (fi : FI) (i : Nat) (k : Nat) (v : Int32) : Int32 := sp_66_9 n fi i k v n 0
set_option maxRecDepth 4000 in
theorem ct_66 {n : Nat} {E : xm_E} {c : Nat × Nat} {fi : FI} {fl : FL} {r : xm_I → Nat → Option xm_I} {d : Nat} {md : Bool} {i : Nat} {k : Nat} {v : Int32} (hs : sh n E c r) (hq : sh_cq n i k) : xm_C E (d + 2) md 66 [xm_r (9, i, k), xm_i v] (c, fi, fl, r) (.inl (some (xm_i (sp_66 n fi i k v))), (c, fi, fl, r)) := by
  have hn := sh_n hs
  suffices key : ∀ R : xm_O, ((.inl (some (xm_i (sp_66 n fi i k v))), (c, fi, fl, r)) : xm_O) = R → xm_G E (d + 1) md 66 0 [some (xm_r (9, i, k)), some (xm_i v), none, none] [] (c, fi, fl, r) R from go_inr (by decide) (Nat.le_of_ble_eq_true rfl) (key _ rfl)
  intro R hR
  refine pg_66_0 rfl ?_
  refine pg_66_1 (sk9 hs (i := i) (k := k) hq) ?_
  refine pg_66_4 rfl ?_
  refine pg_66_5 ?_
  refine pg_66_6 (lv' := [some (xm_r (9, i, k)), some (xm_i v), some (xm_i ((fi (9, i, k) 1) &&& v)), none]) rfl ?_
  refine pg_66_7 ?_
  refine pg_66_8 (lv' := [some (xm_r (9, i, k)), some (xm_i v), some (xm_i ((fi (9, i, k) 1) &&& v)), some (xm_i (0 : Int32))]) rfl ?_
  refine go_eq (R := (.inl (some (xm_i (sp_66_9 n fi i k v (n - 0) 0))), (c, fi, fl, r))) (hR.symm.trans (by unfold sp_66; all_goals rfl)) ?_
  refine lq_early (N := n) (P := fun i1 => xm_G E (d + 1) md 66 9 [some (xm_r (9, i, k)), some (xm_i v), some (xm_i ((fi (9, i, k) 1) &&& v)), some (xm_i (nI i1))] [] (c, fi, fl, r) (.inl (some (xm_i (sp_66_9 n fi i k v (n - i1) i1))), (c, fi, fl, r))) ?_ ?_
  · intro i1 hi1 K1
    show xm_G E (d + 1) md 66 9 [some (xm_r (9, i, k)), some (xm_i v), some (xm_i ((fi (9, i, k) 1) &&& v)), some (xm_i (nI i1))] [] (c, fi, fl, r) (.inl (some (xm_i (sp_66_9 n fi i k v (n - i1) i1))), (c, fi, fl, r))
    rw [show (n - i1) = (n - (i1 + 1)) + 1 from by omega]
    refine pg_66_9 rfl ?_
    refine pg_66_10 rfl ?_
    refine pg_66_11 (sk9 hs (i := i) (k := k) hq) (sr9_0 hs (i := i) (k := k) hq) ?_
    refine pg_66_14 (Or.inr ⟨(sk10 hs (i := i) (k := k) hq), (Or.inl rfl)⟩) ?_
    refine pg_66_15 (fun hc => absurd hc (nx_nle (a := i1) (b := n) rfl rfl (by omega) (by omega))) (fun _ => ?_)
    refine pg_66_18 rfl ?_
    refine pg_66_19 rfl ?_
    refine pg_66_20 ?_
    refine pg_66_21 ?_
    refine pg_66_22 ?_
    refine pg_66_23 (fun hc1 => ?_) (fun hc2 => ?_)
    · refine pg_66_48 (y := (nI (i1 + 1))) (lv' := [some (xm_r (9, i, k)), some (xm_i v), some (xm_i ((fi (9, i, k) 1) &&& v)), some (xm_i (nI (i1 + 1)))]) rfl (nI_1 i1) rfl ?_
      refine pg_66_51 ?_
      exact go_eq (by rw [sp_66_9]; try rw [if_pos hc1]; all_goals rfl) K1
    · refine pg_66_26 ?_
      refine pg_66_27 rfl ?_
      refine pg_66_28 rfl ?_
      refine pg_66_29 (sk9 hs (i := i) (k := k) hq) (sr9_0 hs (i := i) (k := k) hq) ?_
      refine pg_66_32 rfl ?_
      refine pg_66_33 (Or.inl (sk10 hs (i := i) (k := k) hq)) (i := i1) rfl (by omega) (by omega) ?_
      refine pg_66_34 rfl ?_
      refine pg_66_35 (sk9 hs (i := i) (k := k) hq) (Nat.le_of_ble_eq_true rfl) (ct_67 (i := i) (k := k) (x := (fi (10, i, k) i1)) (v := ((fi (9, i, k) 1) &&& v)) hs hq) ?_
      refine pg_66_38 ?_
      refine pg_66_39 rfl ?_
      refine pg_66_40 (Nat.le_of_ble_eq_true rfl) (ct_144 (x := v)) ?_
      refine pg_66_43 (fun hc3 => ?_) (fun hc4 => ?_)
      · refine pg_66_48 (y := (nI (i1 + 1))) (lv' := [some (xm_r (9, i, k)), some (xm_i v), some (xm_i ((fi (9, i, k) 1) &&& v)), some (xm_i (nI (i1 + 1)))]) rfl (nI_1 i1) rfl ?_
        refine pg_66_51 ?_
        exact go_eq (by rw [sp_66_9]; try rw [if_neg hc2]; try rw [if_pos hc3]; all_goals rfl) K1
      · refine pg_66_46 rfl ?_
        exact go_eq (by rw [sp_66_9]; try rw [if_neg hc2]; try rw [if_neg hc4]; all_goals rfl) (pg_66_47)
  · show xm_G E (d + 1) md 66 9 [some (xm_r (9, i, k)), some (xm_i v), some (xm_i ((fi (9, i, k) 1) &&& v)), some (xm_i (nI n))] [] (c, fi, fl, r) (.inl (some (xm_i (sp_66_9 n fi i k v (n - n) n))), (c, fi, fl, r))
    rw [Nat.sub_self]
    refine pg_66_9 rfl ?_
    refine pg_66_10 rfl ?_
    refine pg_66_11 (sk9 hs (i := i) (k := k) hq) (sr9_0 hs (i := i) (k := k) hq) ?_
    refine pg_66_14 (Or.inr ⟨(sk10 hs (i := i) (k := k) hq), (Or.inl rfl)⟩) ?_
    refine pg_66_15 (fun _ => ?_) (fun hc => absurd (nx_le (a := n) (b := n) rfl rfl (by omega) (by omega)) hc)
    refine pg_66_54 ?_
    exact go_eq (by rw [sp_66_9]; all_goals rfl) (pg_66_55)
-- 119: checkOf
def sp_119_6 (f : Int64) (i1 : Nat) (s1 : Int32) : Int32 := (((s1 <<< ((4 : Int32) &&& 31)) &&& (65535 : Int32)) ^^^ ((((s1 >>> ((12 : Int32) &&& 31)) ^^^ (((f.toUInt64 >>> ((nI (60 - 4 * i1)).toInt64.toUInt64 &&& Int64.toUInt64 63)).toInt64).toInt32)) &&& (15 : Int32)) * (4129 : Int32)))
def sp_119 (f : Int64) : Int32 := (lq_it 12 (sp_119_6 f) (65535 : Int32))
set_option maxRecDepth 4000 in
theorem ct_119 {E : xm_E} {h : xm_H} {d : Nat} {md : Bool} {f : Int64} : xm_C E (d + 1) md 119 [xm_l f] h (.inl (some (xm_i (sp_119 f))), h) := by
  suffices key : ∀ R : xm_O, ((.inl (some (xm_i (sp_119 f))), h) : xm_O) = R → xm_G E (d + 0) md 119 0 [some (xm_l f), none, none, none, none] [] h R from go_inr (by decide) (Nat.le_of_ble_eq_true rfl) (key _ rfl)
  intro R hR
  refine pg_119_0 ?_
  refine pg_119_2 (lv' := [some (xm_l f), none, some (xm_i (65535 : Int32)), none, none]) rfl ?_
  refine pg_119_3 ?_
  refine pg_119_5 (lv' := [some (xm_l f), none, some (xm_i (65535 : Int32)), some (xm_i (60 : Int32)), none]) rfl ?_
  refine (lq_loop (N := 12) (f := sp_119_6 f) (s0 := (65535 : Int32)) (P := fun i1 s1 => ∀ u4 : Option xm_V, xm_G E (d + 0) md 119 6 [some (xm_l f), none, some (xm_i s1), some (xm_i (nI (60 - 4 * i1))), u4] [] h R) ?_ ?_) _
  · intro i1 s1 hi1 K1 u4
    show xm_G E (d + 0) md 119 6 [some (xm_l f), none, some (xm_i s1), some (xm_i (nI (60 - 4 * i1))), u4] [] h R
    refine pg_119_6 rfl ?_
    refine pg_119_7 ?_
    refine pg_119_9 (fun hc => absurd hc (nx_nlt (a := (60 - 4 * i1)) (b := 16) rfl (rfl : (16 : Int32) = nI 16) (by omega) (by omega))) (fun _ => ?_)
    refine pg_119_12 rfl ?_
    refine pg_119_13 ?_
    refine pg_119_15 ?_
    refine pg_119_16 rfl ?_
    refine pg_119_17 rfl ?_
    refine pg_119_18 ?_
    refine pg_119_19 ?_
    refine pg_119_20 ?_
    refine pg_119_21 ?_
    refine pg_119_23 ?_
    refine pg_119_24 (lv' := [some (xm_l f), none, some (xm_i s1), some (xm_i (nI (60 - 4 * i1))), some (xm_i (((s1 >>> ((12 : Int32) &&& 31)) ^^^ (((f.toUInt64 >>> ((nI (60 - 4 * i1)).toInt64.toUInt64 &&& Int64.toUInt64 63)).toInt64).toInt32)) &&& (15 : Int32)))]) rfl ?_
    refine pg_119_26 rfl ?_
    refine pg_119_27 ?_
    refine pg_119_28 ?_
    refine pg_119_29 ?_
    refine pg_119_31 ?_
    refine pg_119_32 rfl ?_
    refine pg_119_34 ?_
    refine pg_119_37 ?_
    refine pg_119_38 ?_
    refine pg_119_39 (lv' := [some (xm_l f), none, some (xm_i (((s1 <<< ((4 : Int32) &&& 31)) &&& (65535 : Int32)) ^^^ ((((s1 >>> ((12 : Int32) &&& 31)) ^^^ (((f.toUInt64 >>> ((nI (60 - 4 * i1)).toInt64.toUInt64 &&& Int64.toUInt64 63)).toInt64).toInt32)) &&& (15 : Int32)) * (4129 : Int32)))), some (xm_i (nI (60 - 4 * i1))), some (xm_i (((s1 >>> ((12 : Int32) &&& 31)) ^^^ (((f.toUInt64 >>> ((nI (60 - 4 * i1)).toInt64.toUInt64 &&& Int64.toUInt64 63)).toInt64).toInt32)) &&& (15 : Int32)))]) rfl ?_
    refine pg_119_40 (y := (nI (60 - 4 * (i1 + 1)))) (lv' := [some (xm_l f), none, some (xm_i (((s1 <<< ((4 : Int32) &&& 31)) &&& (65535 : Int32)) ^^^ ((((s1 >>> ((12 : Int32) &&& 31)) ^^^ (((f.toUInt64 >>> ((nI (60 - 4 * i1)).toInt64.toUInt64 &&& Int64.toUInt64 63)).toInt64).toInt32)) &&& (15 : Int32)) * (4129 : Int32)))), some (xm_i (nI (60 - 4 * (i1 + 1)))), some (xm_i (((s1 >>> ((12 : Int32) &&& 31)) ^^^ (((f.toUInt64 >>> ((nI (60 - 4 * i1)).toInt64.toUInt64 &&& Int64.toUInt64 63)).toInt64).toInt32)) &&& (15 : Int32)))]) rfl (nx_dec (e := 4) (b := 60 - 4 * (i1 + 1)) rfl (by decide) (by omega)) rfl ?_
    refine pg_119_43 ?_
    exact K1 (((s1 <<< ((4 : Int32) &&& 31)) &&& (65535 : Int32)) ^^^ ((((s1 >>> ((12 : Int32) &&& 31)) ^^^ (((f.toUInt64 >>> ((nI (60 - 4 * i1)).toInt64.toUInt64 &&& Int64.toUInt64 63)).toInt64).toInt32)) &&& (15 : Int32)) * (4129 : Int32))) (by unfold sp_119_6; all_goals rfl) _
  · intro u4
    show xm_G E (d + 0) md 119 6 [some (xm_l f), none, some (xm_i (lq_it 12 (sp_119_6 f) (65535 : Int32))), some (xm_i (nI (60 - 4 * 12))), u4] [] h R
    refine pg_119_6 rfl ?_
    refine pg_119_7 ?_
    refine pg_119_9 (fun _ => ?_) (fun hc => absurd (nx_lt (a := (60 - 4 * 12)) (b := 16) rfl (rfl : (16 : Int32) = nI 16) (by omega) (by omega)) hc)
    refine pg_119_46 rfl ?_
    exact go_eq (hR.symm.trans (by unfold sp_119; all_goals rfl)) (pg_119_47)
-- 118: isSound
def sp_118 (f : Int64) : Bool := if (lg_cmp (f &&& (65535 : Int64)) ((sp_119 f).toInt64)) = 0 then (true) else (false)
set_option maxRecDepth 4000 in
theorem ct_118 {E : xm_E} {h : xm_H} {d : Nat} {md : Bool} {f : Int64} : xm_C E (d + 2) md 118 [xm_l f] h (.inl (some (xm_i (bI (sp_118 f)))), h) := by
  suffices key : ∀ R : xm_O, ((.inl (some (xm_i (bI (sp_118 f)))), h) : xm_O) = R → xm_G E (d + 1) md 118 0 [some (xm_l f), none] [] h R from go_inr (by decide) (Nat.le_of_ble_eq_true rfl) (key _ rfl)
  intro R hR
  refine pg_118_0 rfl ?_
  refine pg_118_1 ?_
  refine pg_118_4 ?_
  refine pg_118_5 rfl ?_
  refine pg_118_6 (Nat.le_of_ble_eq_true rfl) (ct_119 (f := f)) ?_
  refine pg_118_9 ?_
  refine pg_118_10 ?_
  refine pg_118_11 (fun hc1 => ?_) (fun hc2 => ?_)
  · refine pg_118_18 ?_
    exact go_eq (hR.symm.trans (by unfold sp_118; try rw [if_neg hc1]; all_goals rfl)) (pg_118_19 (Or.inl rfl))
  · refine pg_118_14 ?_
    refine pg_118_15 ?_
    exact go_eq (hR.symm.trans (by unfold sp_118; try rw [if_pos hc2]; all_goals rfl)) (pg_118_19 (Or.inr rfl))
-- 120: soundFrame
def sp_120 (s : Int32) (q : Int32) (o : Int32) (x : Int32) : Int64 := ((((((s.toInt64) <<< ((60 : Int32).toInt64 &&& 63)) ||| ((q.toInt64) <<< ((56 : Int32).toInt64 &&& 63))) ||| ((o.toInt64) <<< ((48 : Int32).toInt64 &&& 63))) ||| (((x.toInt64) &&& (4294967295 : Int64)) <<< ((16 : Int32).toInt64 &&& 63))) ||| ((sp_119 (((((s.toInt64) <<< ((60 : Int32).toInt64 &&& 63)) ||| ((q.toInt64) <<< ((56 : Int32).toInt64 &&& 63))) ||| ((o.toInt64) <<< ((48 : Int32).toInt64 &&& 63))) ||| (((x.toInt64) &&& (4294967295 : Int64)) <<< ((16 : Int32).toInt64 &&& 63)))).toInt64))
set_option maxRecDepth 4000 in
theorem ct_120 {E : xm_E} {h : xm_H} {d : Nat} {md : Bool} {s : Int32} {q : Int32} {o : Int32} {x : Int32} : xm_C E (d + 2) md 120 [xm_i s, xm_i q, xm_i o, xm_i x] h (.inl (some (xm_l (sp_120 s q o x))), h) := by
  suffices key : ∀ R : xm_O, ((.inl (some (xm_l (sp_120 s q o x))), h) : xm_O) = R → xm_G E (d + 1) md 120 0 [some (xm_i s), some (xm_i q), some (xm_i o), some (xm_i x), none, none] [] h R from go_inr (by decide) (Nat.le_of_ble_eq_true rfl) (key _ rfl)
  intro R hR
  refine pg_120_0 rfl ?_
  refine pg_120_1 ?_
  refine pg_120_2 ?_
  refine pg_120_4 ?_
  refine pg_120_5 rfl ?_
  refine pg_120_6 ?_
  refine pg_120_7 ?_
  refine pg_120_9 ?_
  refine pg_120_10 ?_
  refine pg_120_11 rfl ?_
  refine pg_120_12 ?_
  refine pg_120_13 ?_
  refine pg_120_15 ?_
  refine pg_120_16 ?_
  refine pg_120_17 rfl ?_
  refine pg_120_18 ?_
  refine pg_120_19 ?_
  refine pg_120_22 ?_
  refine pg_120_23 ?_
  refine pg_120_25 ?_
  refine pg_120_26 ?_
  refine pg_120_27 (lv' := [some (xm_i s), some (xm_i q), some (xm_i o), some (xm_i x), some (xm_l (((((s.toInt64) <<< ((60 : Int32).toInt64 &&& 63)) ||| ((q.toInt64) <<< ((56 : Int32).toInt64 &&& 63))) ||| ((o.toInt64) <<< ((48 : Int32).toInt64 &&& 63))) ||| (((x.toInt64) &&& (4294967295 : Int64)) <<< ((16 : Int32).toInt64 &&& 63)))), none]) rfl ?_
  refine pg_120_29 rfl ?_
  refine pg_120_31 rfl ?_
  refine pg_120_33 (Nat.le_of_ble_eq_true rfl) (ct_119 (f := (((((s.toInt64) <<< ((60 : Int32).toInt64 &&& 63)) ||| ((q.toInt64) <<< ((56 : Int32).toInt64 &&& 63))) ||| ((o.toInt64) <<< ((48 : Int32).toInt64 &&& 63))) ||| (((x.toInt64) &&& (4294967295 : Int64)) <<< ((16 : Int32).toInt64 &&& 63))))) ?_
  refine pg_120_36 ?_
  refine pg_120_37 ?_
  exact go_eq (hR.symm.trans (by unfold sp_120; all_goals rfl)) (pg_120_38)
-- 121: senderOf
def sp_121 (f : Int64) : Int32 := (((f.toUInt64 >>> ((60 : Int32).toInt64.toUInt64 &&& Int64.toUInt64 63)).toInt64).toInt32)
set_option maxRecDepth 4000 in
theorem ct_121 {E : xm_E} {h : xm_H} {d : Nat} {md : Bool} {f : Int64} : xm_C E (d + 1) md 121 [xm_l f] h (.inl (some (xm_i (sp_121 f))), h) := by
  suffices key : ∀ R : xm_O, ((.inl (some (xm_i (sp_121 f))), h) : xm_O) = R → xm_G E (d + 0) md 121 0 [some (xm_l f), none] [] h R from go_inr (by decide) (Nat.le_of_ble_eq_true rfl) (key _ rfl)
  intro R hR
  refine pg_121_0 rfl ?_
  refine pg_121_1 ?_
  refine pg_121_3 ?_
  refine pg_121_4 ?_
  exact go_eq (hR.symm.trans (by unfold sp_121; all_goals rfl)) (pg_121_5)
-- 122: roundOf
def sp_122 (f : Int64) : Int32 := ((((f.toUInt64 >>> ((48 : Int32).toInt64.toUInt64 &&& Int64.toUInt64 63)).toInt64).toInt32) &&& (255 : Int32))
set_option maxRecDepth 4000 in
theorem ct_122 {E : xm_E} {h : xm_H} {d : Nat} {md : Bool} {f : Int64} : xm_C E (d + 1) md 122 [xm_l f] h (.inl (some (xm_i (sp_122 f))), h) := by
  suffices key : ∀ R : xm_O, ((.inl (some (xm_i (sp_122 f))), h) : xm_O) = R → xm_G E (d + 0) md 122 0 [some (xm_l f), none] [] h R from go_inr (by decide) (Nat.le_of_ble_eq_true rfl) (key _ rfl)
  intro R hR
  refine pg_122_0 rfl ?_
  refine pg_122_1 ?_
  refine pg_122_3 ?_
  refine pg_122_4 ?_
  refine pg_122_5 ?_
  refine pg_122_8 ?_
  exact go_eq (hR.symm.trans (by unfold sp_122; all_goals rfl)) (pg_122_9)
-- 123: kindOf
def sp_123 (f : Int64) : Int32 := ((((f.toUInt64 >>> ((56 : Int32).toInt64.toUInt64 &&& Int64.toUInt64 63)).toInt64).toInt32) &&& (15 : Int32))
set_option maxRecDepth 4000 in
theorem ct_123 {E : xm_E} {h : xm_H} {d : Nat} {md : Bool} {f : Int64} : xm_C E (d + 1) md 123 [xm_l f] h (.inl (some (xm_i (sp_123 f))), h) := by
  suffices key : ∀ R : xm_O, ((.inl (some (xm_i (sp_123 f))), h) : xm_O) = R → xm_G E (d + 0) md 123 0 [some (xm_l f), none] [] h R from go_inr (by decide) (Nat.le_of_ble_eq_true rfl) (key _ rfl)
  intro R hR
  refine pg_123_0 rfl ?_
  refine pg_123_1 ?_
  refine pg_123_3 ?_
  refine pg_123_4 ?_
  refine pg_123_5 ?_
  refine pg_123_7 ?_
  exact go_eq (hR.symm.trans (by unfold sp_123; all_goals rfl)) (pg_123_8)
-- 124: contentOf
def sp_124 (f : Int64) : Int32 := (((f.toUInt64 >>> ((16 : Int32).toInt64.toUInt64 &&& Int64.toUInt64 63)).toInt64).toInt32)
set_option maxRecDepth 4000 in
theorem ct_124 {E : xm_E} {h : xm_H} {d : Nat} {md : Bool} {f : Int64} : xm_C E (d + 1) md 124 [xm_l f] h (.inl (some (xm_i (sp_124 f))), h) := by
  suffices key : ∀ R : xm_O, ((.inl (some (xm_i (sp_124 f))), h) : xm_O) = R → xm_G E (d + 0) md 124 0 [some (xm_l f), none] [] h R from go_inr (by decide) (Nat.le_of_ble_eq_true rfl) (key _ rfl)
  intro R hR
  refine pg_124_0 rfl ?_
  refine pg_124_1 ?_
  refine pg_124_3 ?_
  refine pg_124_4 ?_
  exact go_eq (hR.symm.trans (by unfold sp_124; all_goals rfl)) (pg_124_5)
-- 125: canHold
def sp_125 (s : Int32) (q : Int32) (o : Int32) : Bool := if s < 0 then (false) else (if (15 : Int32) < s then (false) else (if q < 0 then (false) else (if (15 : Int32) < q then (false) else (if o < 0 then (false) else (if (255 : Int32) < o then (false) else (true))))))
set_option maxRecDepth 4000 in
theorem ct_125 {E : xm_E} {h : xm_H} {d : Nat} {md : Bool} {s : Int32} {q : Int32} {o : Int32} : xm_C E (d + 1) md 125 [xm_i s, xm_i q, xm_i o] h (.inl (some (xm_i (bI (sp_125 s q o)))), h) := by
  suffices key : ∀ R : xm_O, ((.inl (some (xm_i (bI (sp_125 s q o)))), h) : xm_O) = R → xm_G E (d + 0) md 125 0 [some (xm_i s), some (xm_i q), some (xm_i o)] [] h R from go_inr (by decide) (Nat.le_of_ble_eq_true rfl) (key _ rfl)
  intro R hR
  refine pg_125_0 rfl ?_
  refine pg_125_1 (fun hc1 => ?_) (fun hc2 => ?_)
  · refine pg_125_35 ?_
    exact go_eq (hR.symm.trans (by unfold sp_125; try rw [if_pos hc1]; all_goals rfl)) (pg_125_36 (Or.inl rfl))
  · refine pg_125_4 rfl ?_
    refine pg_125_5 ?_
    refine pg_125_7 (fun hc3 => ?_) (fun hc4 => ?_)
    · refine pg_125_35 ?_
      exact go_eq (hR.symm.trans (by unfold sp_125; try rw [if_neg hc2]; try rw [if_pos hc3]; all_goals rfl)) (pg_125_36 (Or.inl rfl))
    · refine pg_125_10 rfl ?_
      refine pg_125_11 (fun hc5 => ?_) (fun hc6 => ?_)
      · refine pg_125_35 ?_
        exact go_eq (hR.symm.trans (by unfold sp_125; try rw [if_neg hc2]; try rw [if_neg hc4]; try rw [if_pos hc5]; all_goals rfl)) (pg_125_36 (Or.inl rfl))
      · refine pg_125_14 rfl ?_
        refine pg_125_15 ?_
        refine pg_125_17 (fun hc7 => ?_) (fun hc8 => ?_)
        · refine pg_125_35 ?_
          exact go_eq (hR.symm.trans (by unfold sp_125; try rw [if_neg hc2]; try rw [if_neg hc4]; try rw [if_neg hc6]; try rw [if_pos hc7]; all_goals rfl)) (pg_125_36 (Or.inl rfl))
        · refine pg_125_20 rfl ?_
          refine pg_125_21 (fun hc9 => ?_) (fun hc10 => ?_)
          · refine pg_125_35 ?_
            exact go_eq (hR.symm.trans (by unfold sp_125; try rw [if_neg hc2]; try rw [if_neg hc4]; try rw [if_neg hc6]; try rw [if_neg hc8]; try rw [if_pos hc9]; all_goals rfl)) (pg_125_36 (Or.inl rfl))
          · refine pg_125_24 rfl ?_
            refine pg_125_25 ?_
            refine pg_125_28 (fun hc11 => ?_) (fun hc12 => ?_)
            · refine pg_125_35 ?_
              exact go_eq (hR.symm.trans (by unfold sp_125; try rw [if_neg hc2]; try rw [if_neg hc4]; try rw [if_neg hc6]; try rw [if_neg hc8]; try rw [if_neg hc10]; try rw [if_pos hc11]; all_goals rfl)) (pg_125_36 (Or.inl rfl))
            · refine pg_125_31 ?_
              refine pg_125_32 ?_
              exact go_eq (hR.symm.trans (by unfold sp_125; try rw [if_neg hc2]; try rw [if_neg hc4]; try rw [if_neg hc6]; try rw [if_neg hc8]; try rw [if_neg hc10]; try rw [if_neg hc12]; all_goals rfl)) (pg_125_36 (Or.inr rfl))
-- 19: within
def sp_19 (v : Int64) (a : Int64) (b : Int64) : Int64 := (sp_143 a (sp_142 b v))
set_option maxRecDepth 4000 in
theorem ct_19 {E : xm_E} {h : xm_H} {d : Nat} {md : Bool} {v : Int64} {a : Int64} {b : Int64} : xm_C E (d + 2) md 19 [xm_l v, xm_l a, xm_l b] h (.inl (some (xm_l (sp_19 v a b))), h) := by
  suffices key : ∀ R : xm_O, ((.inl (some (xm_l (sp_19 v a b))), h) : xm_O) = R → xm_G E (d + 1) md 19 0 [some (xm_l v), none, some (xm_l a), none, some (xm_l b), none] [] h R from go_inr (by decide) (Nat.le_of_ble_eq_true rfl) (key _ rfl)
  intro R hR
  refine pg_19_0 rfl ?_
  refine pg_19_1 rfl ?_
  refine pg_19_3 rfl ?_
  refine pg_19_4 (Nat.le_of_ble_eq_true rfl) (ct_142 (x := b) (y := v)) ?_
  refine pg_19_7 (Nat.le_of_ble_eq_true rfl) (ct_143 (x := a) (y := (sp_142 b v))) ?_
  exact go_eq (hR.symm.trans (by unfold sp_19; all_goals rfl)) (pg_19_10)
-- 74: sealed
def sp_74_13 (i1 : Nat) (s1 : Int64) : Int64 := if (lg_cmp (((s1.toUInt64 >>> ((nI (63 - i1)).toInt64.toUInt64 &&& Int64.toUInt64 63)).toInt64) &&& (1 : Int64)) (1 : Int64)) = 0 then ((s1 ^^^ ((69665 : Int64) <<< (((nI (63 - i1)) - (16 : Int32)).toInt64 &&& 63)))) else (s1)
def sp_74 (f : Int64) : Int64 := ((f <<< ((16 : Int32).toInt64 &&& 63)) ||| ((lq_it 48 sp_74_13 ((f ^^^ (281470681743360 : Int64)) <<< ((16 : Int32).toInt64 &&& 63))) &&& (65535 : Int64)))
set_option maxRecDepth 4000 in
theorem ct_74 {E : xm_E} {h : xm_H} {d : Nat} {md : Bool} {f : Int64} : xm_C E (d + 1) md 74 [xm_l f] h (.inl (some (xm_l (sp_74 f))), h) := by
  suffices key : ∀ R : xm_O, ((.inl (some (xm_l (sp_74 f))), h) : xm_O) = R → xm_G E (d + 0) md 74 0 [some (xm_l f), none, none, none, none] [] h R from go_inr (by decide) (Nat.le_of_ble_eq_true rfl) (key _ rfl)
  intro R hR
  refine pg_74_0 rfl ?_
  refine pg_74_1 ?_
  refine pg_74_4 ?_
  refine pg_74_5 ?_
  refine pg_74_7 ?_
  refine pg_74_8 (lv' := [some (xm_l f), none, some (xm_l ((f ^^^ (281470681743360 : Int64)) <<< ((16 : Int32).toInt64 &&& 63))), none, none]) rfl ?_
  refine pg_74_9 ?_
  refine pg_74_11 (lv' := [some (xm_l f), none, some (xm_l ((f ^^^ (281470681743360 : Int64)) <<< ((16 : Int32).toInt64 &&& 63))), none, some (xm_i (63 : Int32))]) rfl ?_
  refine (lq_loop (N := 48) (f := sp_74_13) (s0 := ((f ^^^ (281470681743360 : Int64)) <<< ((16 : Int32).toInt64 &&& 63))) (P := fun i1 s1 => xm_G E (d + 0) md 74 13 [some (xm_l f), none, some (xm_l s1), none, some (xm_i (nI (63 - i1)))] [] h R) ?_ ?_)
  · intro i1 s1 hi1 K1
    show xm_G E (d + 0) md 74 13 [some (xm_l f), none, some (xm_l s1), none, some (xm_i (nI (63 - i1)))] [] h R
    refine pg_74_13 rfl ?_
    refine pg_74_15 ?_
    refine pg_74_17 (fun hc => absurd hc (nx_nlt (a := (63 - i1)) (b := 16) rfl (rfl : (16 : Int32) = nI 16) (by omega) (by omega))) (fun _ => ?_)
    refine pg_74_20 rfl ?_
    refine pg_74_21 rfl ?_
    refine pg_74_23 ?_
    refine pg_74_24 ?_
    refine pg_74_25 ?_
    refine pg_74_26 ?_
    refine pg_74_27 ?_
    refine pg_74_28 (fun hc1 => ?_) (fun hc2 => ?_)
    · refine pg_74_45 rfl ?_
      refine pg_74_46 (lv' := [some (xm_l f), none, some (xm_l s1), none, some (xm_i (nI (63 - i1)))]) rfl ?_
      refine pg_74_47 (y := (nI (63 - (i1 + 1)))) (lv' := [some (xm_l f), none, some (xm_l s1), none, some (xm_i (nI (63 - (i1 + 1))))]) rfl (nx_dec (e := 1) (b := 63 - (i1 + 1)) rfl (by decide) (by omega)) rfl ?_
      refine pg_74_50 ?_
      exact K1 s1 (by unfold sp_74_13; try rw [if_neg hc1]; all_goals rfl)
    · refine pg_74_31 rfl ?_
      refine pg_74_32 ?_
      refine pg_74_35 rfl ?_
      refine pg_74_37 ?_
      refine pg_74_39 ?_
      refine pg_74_40 ?_
      refine pg_74_41 ?_
      refine pg_74_42 ?_
      refine pg_74_46 (lv' := [some (xm_l f), none, some (xm_l (s1 ^^^ ((69665 : Int64) <<< (((nI (63 - i1)) - (16 : Int32)).toInt64 &&& 63)))), none, some (xm_i (nI (63 - i1)))]) rfl ?_
      refine pg_74_47 (y := (nI (63 - (i1 + 1)))) (lv' := [some (xm_l f), none, some (xm_l (s1 ^^^ ((69665 : Int64) <<< (((nI (63 - i1)) - (16 : Int32)).toInt64 &&& 63)))), none, some (xm_i (nI (63 - (i1 + 1))))]) rfl (nx_dec (e := 1) (b := 63 - (i1 + 1)) rfl (by decide) (by omega)) rfl ?_
      refine pg_74_50 ?_
      exact K1 (s1 ^^^ ((69665 : Int64) <<< (((nI (63 - i1)) - (16 : Int32)).toInt64 &&& 63))) (by unfold sp_74_13; try rw [if_pos hc2]; all_goals rfl)
  · skip
    show xm_G E (d + 0) md 74 13 [some (xm_l f), none, some (xm_l (lq_it 48 sp_74_13 ((f ^^^ (281470681743360 : Int64)) <<< ((16 : Int32).toInt64 &&& 63)))), none, some (xm_i (nI (63 - 48)))] [] h R
    refine pg_74_13 rfl ?_
    refine pg_74_15 ?_
    refine pg_74_17 (fun _ => ?_) (fun hc => absurd (nx_lt (a := (63 - 48)) (b := 16) rfl (rfl : (16 : Int32) = nI 16) (by omega) (by omega)) hc)
    refine pg_74_53 rfl ?_
    refine pg_74_54 ?_
    refine pg_74_56 ?_
    refine pg_74_57 rfl ?_
    refine pg_74_58 ?_
    refine pg_74_61 ?_
    refine pg_74_62 ?_
    exact go_eq (hR.symm.trans (by unfold sp_74; all_goals rfl)) (pg_74_63)
-- 77: Model.isSound
def sp_77 (f : Int64) : Bool := if (lg_cmp (sp_74 ((f.toUInt64 >>> ((16 : Int32).toInt64.toUInt64 &&& Int64.toUInt64 63)).toInt64)) f) = 0 then (true) else (false)
set_option maxRecDepth 4000 in
theorem ct_77 {E : xm_E} {h : xm_H} {d : Nat} {md : Bool} {f : Int64} : xm_C E (d + 2) md 77 [xm_l f] h (.inl (some (xm_i (bI (sp_77 f)))), h) := by
  suffices key : ∀ R : xm_O, ((.inl (some (xm_i (bI (sp_77 f)))), h) : xm_O) = R → xm_G E (d + 1) md 77 0 [some (xm_l f), none] [] h R from go_inr (by decide) (Nat.le_of_ble_eq_true rfl) (key _ rfl)
  intro R hR
  refine pg_77_0 rfl ?_
  refine pg_77_1 ?_
  refine pg_77_3 ?_
  refine pg_77_4 (Nat.le_of_ble_eq_true rfl) (ct_74 (f := ((f.toUInt64 >>> ((16 : Int32).toInt64.toUInt64 &&& Int64.toUInt64 63)).toInt64))) ?_
  refine pg_77_7 rfl ?_
  refine pg_77_8 ?_
  refine pg_77_9 (fun hc1 => ?_) (fun hc2 => ?_)
  · refine pg_77_16 ?_
    exact go_eq (hR.symm.trans (by unfold sp_77; try rw [if_neg hc1]; all_goals rfl)) (pg_77_17 (Or.inl rfl))
  · refine pg_77_12 ?_
    refine pg_77_13 ?_
    exact go_eq (hR.symm.trans (by unfold sp_77; try rw [if_pos hc2]; all_goals rfl)) (pg_77_17 (Or.inr rfl))
-- 73: made
def sp_73 (s : Int32) (q : Int32) (o : Int32) (x : Int32) : Int64 := (sp_74 (((((s.toInt64) <<< ((44 : Int32).toInt64 &&& 63)) ||| ((q.toInt64) <<< ((40 : Int32).toInt64 &&& 63))) ||| ((o.toInt64) <<< ((32 : Int32).toInt64 &&& 63))) ||| ((x.toInt64) &&& (4294967295 : Int64))))
set_option maxRecDepth 4000 in
theorem ct_73 {E : xm_E} {h : xm_H} {d : Nat} {md : Bool} {s : Int32} {q : Int32} {o : Int32} {x : Int32} : xm_C E (d + 2) md 73 [xm_i s, xm_i q, xm_i o, xm_i x] h (.inl (some (xm_l (sp_73 s q o x))), h) := by
  suffices key : ∀ R : xm_O, ((.inl (some (xm_l (sp_73 s q o x))), h) : xm_O) = R → xm_G E (d + 1) md 73 0 [some (xm_i s), some (xm_i q), some (xm_i o), some (xm_i x)] [] h R from go_inr (by decide) (Nat.le_of_ble_eq_true rfl) (key _ rfl)
  intro R hR
  refine pg_73_0 rfl ?_
  refine pg_73_1 ?_
  refine pg_73_2 ?_
  refine pg_73_4 ?_
  refine pg_73_5 rfl ?_
  refine pg_73_6 ?_
  refine pg_73_7 ?_
  refine pg_73_9 ?_
  refine pg_73_10 ?_
  refine pg_73_11 rfl ?_
  refine pg_73_12 ?_
  refine pg_73_13 ?_
  refine pg_73_15 ?_
  refine pg_73_16 ?_
  refine pg_73_17 rfl ?_
  refine pg_73_18 ?_
  refine pg_73_19 ?_
  refine pg_73_22 ?_
  refine pg_73_23 ?_
  refine pg_73_24 (Nat.le_of_ble_eq_true rfl) (ct_74 (f := (((((s.toInt64) <<< ((44 : Int32).toInt64 &&& 63)) ||| ((q.toInt64) <<< ((40 : Int32).toInt64 &&& 63))) ||| ((o.toInt64) <<< ((32 : Int32).toInt64 &&& 63))) ||| ((x.toInt64) &&& (4294967295 : Int64))))) ?_
  exact go_eq (hR.symm.trans (by unfold sp_73; all_goals rfl)) (pg_73_27)
-- 89: Model.within
def sp_89 (v : Int64) (a : Int64) (b : Int64) : Int64 := if 0 ≤ (lg_cmp v a) then (if (lg_cmp v b) ≤ 0 then (v) else (b)) else (a)
set_option maxRecDepth 4000 in
theorem ct_89 {E : xm_E} {h : xm_H} {d : Nat} {md : Bool} {v : Int64} {a : Int64} {b : Int64} : xm_C E (d + 1) md 89 [xm_l v, xm_l a, xm_l b] h (.inl (some (xm_l (sp_89 v a b))), h) := by
  suffices key : ∀ R : xm_O, ((.inl (some (xm_l (sp_89 v a b))), h) : xm_O) = R → xm_G E (d + 0) md 89 0 [some (xm_l v), none, some (xm_l a), none, some (xm_l b), none] [] h R from go_inr (by decide) (Nat.le_of_ble_eq_true rfl) (key _ rfl)
  intro R hR
  refine pg_89_0 rfl ?_
  refine pg_89_1 rfl ?_
  refine pg_89_2 ?_
  refine pg_89_3 (fun hc1 => ?_) (fun hc2 => ?_)
  · refine pg_89_10 rfl ?_
    refine pg_89_11 rfl ?_
    refine pg_89_13 ?_
    refine pg_89_14 (fun hc3 => ?_) (fun hc4 => ?_)
    · refine pg_89_22 rfl ?_
      exact go_eq (hR.symm.trans (by unfold sp_89; try rw [if_pos hc1]; try rw [if_pos hc3]; all_goals rfl)) (pg_89_23)
    · refine pg_89_17 rfl ?_
      refine pg_89_19 ?_
      exact go_eq (hR.symm.trans (by unfold sp_89; try rw [if_pos hc1]; try rw [if_neg hc4]; all_goals rfl)) (pg_89_23)
  · refine pg_89_6 rfl ?_
    refine pg_89_7 ?_
    exact go_eq (hR.symm.trans (by unfold sp_89; try rw [if_neg hc2]; all_goals rfl)) (pg_89_23)
