/-! Functions and contracts: the reference, what is sent. Written by wip/whole/prog. -/
-- 69: Model.thrown
def sp_69 (fi : FI) : Int32 := (fi (20, 0, 0) 0)
set_option maxRecDepth 4000 in
theorem ct_69 {n : Nat} {E : xm_E} {c : Nat × Nat} {fi : FI} {fl : FL} {r : xm_I → Nat → Option xm_I} {d : Nat} {md : Bool} (hs : sh n E c r) : xm_C E (d + 1) md 69 [xm_r (20, 0, 0)] (c, fi, fl, r) (.inl (some (xm_i (sp_69 fi))), (c, fi, fl, r)) := by
  have hn := sh_n hs
  suffices key : ∀ R : xm_O, ((.inl (some (xm_i (sp_69 fi))), (c, fi, fl, r)) : xm_O) = R → xm_G E (d + 0) md 69 0 [some (xm_r (20, 0, 0))] [] (c, fi, fl, r) R from go_inr (by decide) (Nat.le_of_ble_eq_true rfl) (key _ rfl)
  intro R hR
  refine pg_69_0 rfl ?_
  refine pg_69_1 (sk20 hs) ?_
  exact go_eq (hR.symm.trans (by unfold sp_69; all_goals rfl)) (pg_69_4)
-- 78: Model.content
def sp_78 (fl : FL) : Int32 := ((((fl (20, 0, 0) 26).toUInt64 >>> ((16 : Int32).toInt64.toUInt64 &&& Int64.toUInt64 63)).toInt64).toInt32)
set_option maxRecDepth 4000 in
theorem ct_78 {n : Nat} {E : xm_E} {c : Nat × Nat} {fi : FI} {fl : FL} {r : xm_I → Nat → Option xm_I} {d : Nat} {md : Bool} (hs : sh n E c r) : xm_C E (d + 1) md 78 [xm_r (20, 0, 0)] (c, fi, fl, r) (.inl (some (xm_i (sp_78 fl))), (c, fi, fl, r)) := by
  have hn := sh_n hs
  suffices key : ∀ R : xm_O, ((.inl (some (xm_i (sp_78 fl))), (c, fi, fl, r)) : xm_O) = R → xm_G E (d + 0) md 78 0 [some (xm_r (20, 0, 0))] [] (c, fi, fl, r) R from go_inr (by decide) (Nat.le_of_ble_eq_true rfl) (key _ rfl)
  intro R hR
  refine pg_78_0 rfl ?_
  refine pg_78_1 (sk20 hs) ?_
  refine pg_78_4 ?_
  refine pg_78_6 ?_
  refine pg_78_7 ?_
  exact go_eq (hR.symm.trans (by unfold sp_78; all_goals rfl)) (pg_78_8)
-- 99: Model.noNode
def sp_99 (n : Nat) (x : Int32) : Bool := if x < 0 then (true) else (if x < (nI n) then (false) else (true))
set_option maxRecDepth 4000 in
theorem ct_99 {n : Nat} {E : xm_E} {c : Nat × Nat} {fi : FI} {fl : FL} {r : xm_I → Nat → Option xm_I} {d : Nat} {md : Bool} {x : Int32} (hs : sh n E c r) (hf : fz n fi) : xm_C E (d + 1) md 99 [xm_r (20, 0, 0), xm_i x] (c, fi, fl, r) (.inl (some (xm_i (bI (sp_99 n x)))), (c, fi, fl, r)) := by
  have hn := sh_n hs
  suffices key : ∀ R : xm_O, ((.inl (some (xm_i (bI (sp_99 n x)))), (c, fi, fl, r)) : xm_O) = R → xm_G E (d + 0) md 99 0 [some (xm_r (20, 0, 0)), some (xm_i x)] [] (c, fi, fl, r) R from go_inr (by decide) (Nat.le_of_ble_eq_true rfl) (key _ rfl)
  intro R hR
  refine pg_99_0 rfl ?_
  refine pg_99_1 (fun hc1 => ?_) (fun hc2 => ?_)
  · refine pg_99_12 ?_
    refine pg_99_13 ?_
    exact go_eq (hR.symm.trans (by unfold sp_99; try rw [if_pos hc1]; all_goals rfl)) (pg_99_17 (Or.inr rfl))
  · refine pg_99_4 rfl ?_
    refine pg_99_5 rfl ?_
    refine pg_99_6 (sk20 hs) ?_
    refine go_top (y := nI n) (fz_kp hf (kp_re [] fi) rfl rfl rfl).2 ?_
    refine pg_99_9 (fun hc3 => ?_) (fun hc4 => ?_)
    · refine pg_99_16 ?_
      exact go_eq (hR.symm.trans (by unfold sp_99; try rw [if_neg hc2]; try rw [if_pos hc3]; all_goals rfl)) (pg_99_17 (Or.inl rfl))
    · refine pg_99_12 ?_
      refine pg_99_13 ?_
      exact go_eq (hR.symm.trans (by unfold sp_99; try rw [if_neg hc2]; try rw [if_neg hc4]; all_goals rfl)) (pg_99_17 (Or.inr rfl))
-- 72: Model.due
def sp_72 (fi : FI) (p : Nat) (q : Int32) (x : Int32) : Int64 × FI := ((sp_73 (nI p) q ((fi (20, 0, 0) 3) - (fi (20, 0, 0) 3) / (256 : Int32) * (256 : Int32)) x), (xm_up fi (20, 0, 0) 23 (if (fi (21, 9, 0) p) = (4 : Int32) then ((fi (20, 0, 0) 23) + (1 : Int32)) else (fi (20, 0, 0) 23))))
theorem kp_sp_72 (fi : FI) (p : Nat) (q : Int32) (x : Int32) : kp [2023] fi ((sp_72 fi p q x).2) := by
  unfold sp_72
  exact (kp_up (kp_re [2023] fi) rfl)
set_option maxRecDepth 4000 in
theorem ct_72 {n : Nat} {E : xm_E} {c : Nat × Nat} {fi : FI} {fl : FL} {r : xm_I → Nat → Option xm_I} {d : Nat} {p : Nat} {q : Int32} {x : Int32} (hs : sh n E c r) (hp : p < n) : xm_C E (d + 3) true 72 [xm_r (20, 0, 0), xm_i (nI p), xm_i q, xm_i x] (c, fi, fl, r) (.inl (some (xm_l ((sp_72 fi p q x).1))), (c, (sp_72 fi p q x).2, fl, r)) := by
  have hn := sh_n hs
  suffices key : ∀ R : xm_O, ((.inl (some (xm_l ((sp_72 fi p q x).1))), (c, (sp_72 fi p q x).2, fl, r)) : xm_O) = R → xm_G E (d + 2) true 72 0 [some (xm_r (20, 0, 0)), some (xm_i (nI p)), some (xm_i q), some (xm_i x)] [] (c, fi, fl, r) R from go_inr (by decide) (Nat.le_of_ble_eq_true rfl) (key _ rfl)
  intro R hR
  refine pg_72_0 rfl ?_
  refine pg_72_1 (sk20 hs) (sr20_9 hs) ?_
  refine pg_72_4 rfl ?_
  refine pg_72_5 (Or.inl (sk21_9 hs)) (i := p) rfl (by omega) (by omega) ?_
  refine pg_72_6 ?_
  suffices KJ : xm_G E (d + 2) true 72 20 [some (xm_r (20, 0, 0)), some (xm_i (nI p)), some (xm_i q), some (xm_i x)] [] (c, (xm_up fi (20, 0, 0) 23 (if (fi (21, 9, 0) p) = (4 : Int32) then ((fi (20, 0, 0) 23) + (1 : Int32)) else (fi (20, 0, 0) 23))), fl, r) R by
    refine pg_72_7 (fun hc1 => ?_) (fun hc2 => ?_)
    · repeat rw [if_neg hc1] at KJ
      repeat rw [if_neg hc1]
      (try rw [up_same] at KJ); exact KJ
    · refine pg_72_10 rfl ?_
      refine pg_72_11 rfl ?_
      refine pg_72_12 (sk20 hs) ?_
      refine pg_72_15 ?_
      refine pg_72_16 ?_
      refine pg_72_17 (sk20 hs) ?_
      repeat rw [if_pos hc2] at KJ
      repeat rw [if_pos hc2]
      (try rw [up_same] at KJ); exact KJ
  refine pg_72_20 rfl ?_
  refine pg_72_21 rfl ?_
  refine pg_72_22 rfl ?_
  refine pg_72_23 (sk20 hs) ?_
  refine go_top (y := (fi (20, 0, 0) 3)) (by simp [xm_up]) ?_
  refine pg_72_26 ?_
  refine pg_72_29 (by decide) ?_
  refine pg_72_30 rfl ?_
  refine pg_72_31 (Nat.le_of_ble_eq_true rfl) (ct_73 (s := (nI p)) (q := q) (o := ((fi (20, 0, 0) 3) - (fi (20, 0, 0) 3) / (256 : Int32) * (256 : Int32))) (x := x)) ?_
  exact go_eq (hR.symm.trans (by unfold sp_72; all_goals rfl)) (pg_72_34)
-- 75: Model.carry
def sp_75 (fi : FI) (fl : FL) (p : Nat) (y : Int32) (f : Int64) : FI × FL := if (fi (21, 9, 0) p) = (2 : Int32) then (if (fi (21, 9, 0) p) = (3 : Int32) then (if (y - y / (2 : Int32) * (2 : Int32)) = (1 : Int32) then (((xm_up fi (20, 0, 0) 25 (bI (if (fi (21, 9, 0) p) = (1 : Int32) then false else (if (fi (21, 9, 0) p) = (4 : Int32) then false else true)))), (xm_up (xm_up (xm_up fl (20, 0, 0) 26 f) (20, 0, 0) 26 (f ^^^ ((xm_up fl (20, 0, 0) 26 f) (21, 10, 0) p))) (20, 0, 0) 26 (sp_74 (((f.toUInt64 >>> ((16 : Int32).toInt64.toUInt64 &&& Int64.toUInt64 63)).toInt64) ^^^ (((xm_up (xm_up fl (20, 0, 0) 26 f) (20, 0, 0) 26 (f ^^^ ((xm_up fl (20, 0, 0) 26 f) (21, 10, 0) p))) (21, 10, 0) p) &&& (4294967295 : Int64))))))) else (((xm_up fi (20, 0, 0) 25 (bI (if (fi (21, 9, 0) p) = (1 : Int32) then false else (if (fi (21, 9, 0) p) = (4 : Int32) then false else true)))), (xm_up (xm_up fl (20, 0, 0) 26 f) (20, 0, 0) 26 (f ^^^ ((xm_up fl (20, 0, 0) 26 f) (21, 10, 0) p)))))) else (((xm_up fi (20, 0, 0) 25 (bI (if (fi (21, 9, 0) p) = (1 : Int32) then false else (if (fi (21, 9, 0) p) = (4 : Int32) then false else true)))), (xm_up (xm_up fl (20, 0, 0) 26 f) (20, 0, 0) 26 (f ^^^ ((xm_up fl (20, 0, 0) 26 f) (21, 10, 0) p)))))) else (if (fi (21, 9, 0) p) = (3 : Int32) then (if (y - y / (2 : Int32) * (2 : Int32)) = (1 : Int32) then (((xm_up fi (20, 0, 0) 25 (bI (if (fi (21, 9, 0) p) = (1 : Int32) then false else (if (fi (21, 9, 0) p) = (4 : Int32) then false else true)))), (xm_up (xm_up fl (20, 0, 0) 26 f) (20, 0, 0) 26 (sp_74 (((f.toUInt64 >>> ((16 : Int32).toInt64.toUInt64 &&& Int64.toUInt64 63)).toInt64) ^^^ (((xm_up fl (20, 0, 0) 26 f) (21, 10, 0) p) &&& (4294967295 : Int64))))))) else (((xm_up fi (20, 0, 0) 25 (bI (if (fi (21, 9, 0) p) = (1 : Int32) then false else (if (fi (21, 9, 0) p) = (4 : Int32) then false else true)))), (xm_up fl (20, 0, 0) 26 f)))) else (((xm_up fi (20, 0, 0) 25 (bI (if (fi (21, 9, 0) p) = (1 : Int32) then false else (if (fi (21, 9, 0) p) = (4 : Int32) then false else true)))), (xm_up fl (20, 0, 0) 26 f))))
theorem kp_sp_75 (fi : FI) (fl : FL) (p : Nat) (y : Int32) (f : Int64) : kp [2025] fi ((sp_75 fi fl p y f).1) := by
  unfold sp_75
  rcases Classical.em ((fi (21, 9, 0) p) = (2 : Int32)) with hc | hc
  · (try rw [if_pos hc])
    rcases Classical.em ((fi (21, 9, 0) p) = (3 : Int32)) with hc | hc
    · (try rw [if_pos hc])
      rcases Classical.em ((y - y / (2 : Int32) * (2 : Int32)) = (1 : Int32)) with hc | hc
      · (try rw [if_pos hc])
        exact (kp_up (kp_re [2025] fi) rfl)
      · (try rw [if_neg hc])
        exact (kp_up (kp_re [2025] fi) rfl)
    · (try rw [if_neg hc])
      exact (kp_up (kp_re [2025] fi) rfl)
  · (try rw [if_neg hc])
    rcases Classical.em ((fi (21, 9, 0) p) = (3 : Int32)) with hc | hc
    · (try rw [if_pos hc])
      rcases Classical.em ((y - y / (2 : Int32) * (2 : Int32)) = (1 : Int32)) with hc | hc
      · (try rw [if_pos hc])
        exact (kp_up (kp_re [2025] fi) rfl)
      · (try rw [if_neg hc])
        exact (kp_up (kp_re [2025] fi) rfl)
    · (try rw [if_neg hc])
      exact (kp_up (kp_re [2025] fi) rfl)
set_option maxRecDepth 4000 in
theorem ct_75 {n : Nat} {E : xm_E} {c : Nat × Nat} {fi : FI} {fl : FL} {r : xm_I → Nat → Option xm_I} {d : Nat} {p : Nat} {y : Int32} {f : Int64} (hs : sh n E c r) (hp : p < n) : xm_C E (d + 2) true 75 [xm_r (20, 0, 0), xm_i (nI p), xm_i y, xm_l f] (c, fi, fl, r) (.inl (none), (c, (sp_75 fi fl p y f).1, (sp_75 fi fl p y f).2, r)) := by
  have hn := sh_n hs
  suffices key : ∀ R : xm_O, ((.inl (none), (c, (sp_75 fi fl p y f).1, (sp_75 fi fl p y f).2, r)) : xm_O) = R → xm_G E (d + 1) true 75 0 [some (xm_r (20, 0, 0)), some (xm_i (nI p)), some (xm_i y), some (xm_l f), none, none] [] (c, fi, fl, r) R from go_inr (by decide) (Nat.le_of_ble_eq_true rfl) (key _ rfl)
  intro R hR
  refine pg_75_0 rfl ?_
  refine pg_75_1 (sk20 hs) (sr20_9 hs) ?_
  refine pg_75_4 rfl ?_
  refine pg_75_5 (Or.inl (sk21_9 hs)) (i := p) rfl (by omega) (by omega) ?_
  refine pg_75_6 (lv' := [some (xm_r (20, 0, 0)), some (xm_i (nI p)), some (xm_i y), some (xm_l f), none, some (xm_i (fi (21, 9, 0) p))]) rfl ?_
  refine pg_75_8 rfl ?_
  refine pg_75_9 rfl ?_
  refine pg_75_11 ?_
  suffices KJ : xm_G E (d + 1) true 75 26 [some (xm_r (20, 0, 0)), some (xm_i (nI p)), some (xm_i y), some (xm_l f), none, some (xm_i (fi (21, 9, 0) p))] [xm_i (bI (if (fi (21, 9, 0) p) = (1 : Int32) then false else (if (fi (21, 9, 0) p) = (4 : Int32) then false else true))), xm_r (20, 0, 0)] (c, fi, fl, r) R by
    refine pg_75_12 (fun hc1 => ?_) (fun hc2 => ?_)
    · refine pg_75_25 ?_
      repeat rw [if_pos hc1] at KJ
      repeat rw [if_pos hc1]
      exact KJ
    · refine pg_75_15 rfl ?_
      refine pg_75_17 ?_
      refine pg_75_18 (fun hc3 => ?_) (fun hc4 => ?_)
      · refine pg_75_25 ?_
        repeat rw [if_neg hc2] at KJ
        repeat rw [if_pos hc3] at KJ
        repeat rw [if_neg hc2]
        repeat rw [if_pos hc3]
        exact KJ
      · refine pg_75_21 ?_
        refine pg_75_22 ?_
        repeat rw [if_neg hc2] at KJ
        repeat rw [if_neg hc4] at KJ
        repeat rw [if_neg hc2]
        repeat rw [if_neg hc4]
        exact KJ
  refine pg_75_26 (sk20 hs) (bI_01 _) ?_
  refine pg_75_29 rfl ?_
  refine pg_75_30 rfl ?_
  refine pg_75_31 (sk20 hs) ?_
  refine pg_75_34 rfl ?_
  refine pg_75_36 ?_
  refine pg_75_37 (fun hc5 => ?_) (fun hc6 => ?_)
  · refine pg_75_52 rfl ?_
    refine pg_75_54 ?_
    refine pg_75_55 (fun hc7 => ?_) (fun hc8 => ?_)
    · exact go_eq (hR.symm.trans (by unfold sp_75; try rw [if_neg hc5]; try rw [if_neg hc7]; all_goals rfl)) (pg_75_87)
    · refine pg_75_58 rfl ?_
      refine pg_75_59 ?_
      refine pg_75_60 (by decide) ?_
      refine pg_75_61 ?_
      refine pg_75_62 (fun hc9 => ?_) (fun hc10 => ?_)
      · exact go_eq (hR.symm.trans (by unfold sp_75; try rw [if_neg hc5]; try rw [if_pos hc8]; try rw [if_neg hc9]; all_goals rfl)) (pg_75_87)
      · refine pg_75_65 rfl ?_
        refine pg_75_66 rfl ?_
        refine pg_75_67 ?_
        refine pg_75_69 ?_
        refine pg_75_70 rfl ?_
        refine pg_75_71 (sk20 hs) (sr20_10 hs) ?_
        refine pg_75_74 rfl ?_
        refine pg_75_75 (sk21_10 hs) (i := p) rfl (by omega) (by omega) ?_
        refine pg_75_76 ?_
        refine pg_75_79 ?_
        refine pg_75_80 ?_
        refine pg_75_81 (Nat.le_of_ble_eq_true rfl) (ct_74 (f := (((f.toUInt64 >>> ((16 : Int32).toInt64.toUInt64 &&& Int64.toUInt64 63)).toInt64) ^^^ (((xm_up fl (20, 0, 0) 26 f) (21, 10, 0) p) &&& (4294967295 : Int64))))) ?_
        refine pg_75_84 (sk20 hs) ?_
        exact go_eq (hR.symm.trans (by unfold sp_75; try rw [if_neg hc5]; try rw [if_pos hc8]; try rw [if_pos hc10]; all_goals rfl)) (pg_75_87)
  · refine pg_75_40 rfl ?_
    refine pg_75_41 rfl ?_
    refine pg_75_42 rfl ?_
    refine pg_75_43 (sk20 hs) (sr20_10 hs) ?_
    refine pg_75_46 rfl ?_
    refine pg_75_47 (sk21_10 hs) (i := p) rfl (by omega) (by omega) ?_
    refine pg_75_48 ?_
    refine pg_75_49 (sk20 hs) ?_
    refine pg_75_52 rfl ?_
    refine pg_75_54 ?_
    refine pg_75_55 (fun hc11 => ?_) (fun hc12 => ?_)
    · exact go_eq (hR.symm.trans (by unfold sp_75; try rw [if_pos hc6]; try rw [if_neg hc11]; all_goals rfl)) (pg_75_87)
    · refine pg_75_58 rfl ?_
      refine pg_75_59 ?_
      refine pg_75_60 (by decide) ?_
      refine pg_75_61 ?_
      refine pg_75_62 (fun hc13 => ?_) (fun hc14 => ?_)
      · exact go_eq (hR.symm.trans (by unfold sp_75; try rw [if_pos hc6]; try rw [if_pos hc12]; try rw [if_neg hc13]; all_goals rfl)) (pg_75_87)
      · refine pg_75_65 rfl ?_
        refine pg_75_66 rfl ?_
        refine pg_75_67 ?_
        refine pg_75_69 ?_
        refine pg_75_70 rfl ?_
        refine pg_75_71 (sk20 hs) (sr20_10 hs) ?_
        refine pg_75_74 rfl ?_
        refine pg_75_75 (sk21_10 hs) (i := p) rfl (by omega) (by omega) ?_
        refine pg_75_76 ?_
        refine pg_75_79 ?_
        refine pg_75_80 ?_
        refine pg_75_81 (Nat.le_of_ble_eq_true rfl) (ct_74 (f := (((f.toUInt64 >>> ((16 : Int32).toInt64.toUInt64 &&& Int64.toUInt64 63)).toInt64) ^^^ (((xm_up (xm_up fl (20, 0, 0) 26 f) (20, 0, 0) 26 (f ^^^ ((xm_up fl (20, 0, 0) 26 f) (21, 10, 0) p))) (21, 10, 0) p) &&& (4294967295 : Int64))))) ?_
        refine pg_75_84 (sk20 hs) ?_
        exact go_eq (hR.symm.trans (by unfold sp_75; try rw [if_pos hc6]; try rw [if_pos hc12]; try rw [if_pos hc14]; all_goals rfl)) (pg_75_87)
-- 76: Model.fits
def sp_76 (fi : FI) (fl : FL) (x : Int32) (q : Int32) : Bool := if (fi (20, 0, 0) 25) = 0 then (false) else (if (bI (sp_77 (fl (20, 0, 0) 26))) = 0 then (false) else (if (lg_cmp (((fl (20, 0, 0) 26).toUInt64 >>> ((60 : Int32).toInt64.toUInt64 &&& Int64.toUInt64 63)).toInt64) (x.toInt64)) = 0 then (if (lg_cmp ((((fl (20, 0, 0) 26).toUInt64 >>> ((56 : Int32).toInt64.toUInt64 &&& Int64.toUInt64 63)).toInt64) &&& (15 : Int64)) (q.toInt64)) = 0 then (if (lg_cmp ((((fl (20, 0, 0) 26).toUInt64 >>> ((48 : Int32).toInt64.toUInt64 &&& Int64.toUInt64 63)).toInt64) &&& (255 : Int64)) (((fi (20, 0, 0) 3) - (fi (20, 0, 0) 3) / (256 : Int32) * (256 : Int32)).toInt64)) = 0 then (true) else (false)) else (false)) else (false)))
set_option maxRecDepth 4000 in
theorem ct_76 {n : Nat} {E : xm_E} {c : Nat × Nat} {fi : FI} {fl : FL} {r : xm_I → Nat → Option xm_I} {d : Nat} {md : Bool} {x : Int32} {q : Int32} (hs : sh n E c r) : xm_C E (d + 3) md 76 [xm_r (20, 0, 0), xm_i x, xm_i q] (c, fi, fl, r) (.inl (some (xm_i (bI (sp_76 fi fl x q)))), (c, fi, fl, r)) := by
  have hn := sh_n hs
  suffices key : ∀ R : xm_O, ((.inl (some (xm_i (bI (sp_76 fi fl x q)))), (c, fi, fl, r)) : xm_O) = R → xm_G E (d + 2) md 76 0 [some (xm_r (20, 0, 0)), some (xm_i x), some (xm_i q)] [] (c, fi, fl, r) R from go_inr (by decide) (Nat.le_of_ble_eq_true rfl) (key _ rfl)
  intro R hR
  refine pg_76_0 rfl ?_
  refine pg_76_1 (sk20 hs) ?_
  refine pg_76_4 (fun hc1 => ?_) (fun hc2 => ?_)
  · refine pg_76_75 ?_
    exact go_eq (hR.symm.trans (by unfold sp_76; try rw [if_pos hc1]; all_goals rfl)) (pg_76_76 (Or.inl rfl))
  · refine pg_76_7 rfl ?_
    refine pg_76_8 (sk20 hs) ?_
    refine pg_76_11 (Nat.le_of_ble_eq_true rfl) (ct_77 (f := (fl (20, 0, 0) 26))) ?_
    refine pg_76_14 (fun hc3 => ?_) (fun hc4 => ?_)
    · refine pg_76_75 ?_
      exact go_eq (hR.symm.trans (by unfold sp_76; try rw [if_neg hc2]; try rw [if_pos hc3]; all_goals rfl)) (pg_76_76 (Or.inl rfl))
    · refine pg_76_17 rfl ?_
      refine pg_76_18 (sk20 hs) ?_
      refine pg_76_21 ?_
      refine pg_76_23 ?_
      refine pg_76_24 rfl ?_
      refine pg_76_25 ?_
      refine pg_76_26 ?_
      refine pg_76_27 (fun hc5 => ?_) (fun hc6 => ?_)
      · refine pg_76_75 ?_
        exact go_eq (hR.symm.trans (by unfold sp_76; try rw [if_neg hc2]; try rw [if_neg hc4]; try rw [if_neg hc5]; all_goals rfl)) (pg_76_76 (Or.inl rfl))
      · refine pg_76_30 rfl ?_
        refine pg_76_31 (sk20 hs) ?_
        refine pg_76_34 ?_
        refine pg_76_36 ?_
        refine pg_76_37 ?_
        refine pg_76_40 ?_
        refine pg_76_41 rfl ?_
        refine pg_76_42 ?_
        refine pg_76_43 ?_
        refine pg_76_44 (fun hc7 => ?_) (fun hc8 => ?_)
        · refine pg_76_75 ?_
          exact go_eq (hR.symm.trans (by unfold sp_76; try rw [if_neg hc2]; try rw [if_neg hc4]; try rw [if_pos hc6]; try rw [if_neg hc7]; all_goals rfl)) (pg_76_76 (Or.inl rfl))
        · refine pg_76_47 rfl ?_
          refine pg_76_48 (sk20 hs) ?_
          refine pg_76_51 ?_
          refine pg_76_53 ?_
          refine pg_76_54 ?_
          refine pg_76_57 ?_
          refine pg_76_58 rfl ?_
          refine pg_76_59 (sk20 hs) ?_
          refine pg_76_62 ?_
          refine pg_76_65 (by decide) ?_
          refine pg_76_66 ?_
          refine pg_76_67 ?_
          refine pg_76_68 (fun hc9 => ?_) (fun hc10 => ?_)
          · refine pg_76_75 ?_
            exact go_eq (hR.symm.trans (by unfold sp_76; try rw [if_neg hc2]; try rw [if_neg hc4]; try rw [if_pos hc6]; try rw [if_pos hc8]; try rw [if_neg hc9]; all_goals rfl)) (pg_76_76 (Or.inl rfl))
          · refine pg_76_71 ?_
            refine pg_76_72 ?_
            exact go_eq (hR.symm.trans (by unfold sp_76; try rw [if_neg hc2]; try rw [if_neg hc4]; try rw [if_pos hc6]; try rw [if_pos hc8]; try rw [if_pos hc10]; all_goals rfl)) (pg_76_76 (Or.inr rfl))
-- 79: Model.reject
def sp_79 (fi : FI) (p : Nat) (g : Int32) : FI := (xm_up fi (21, 24, 0) p (if (fi (20, 0, 0) 25) = 0 then (fi (21, 24, 0) p) else (if g = 0 then ((fi (21, 24, 0) p) + (1 : Int32)) else (fi (21, 24, 0) p))))
theorem kp_sp_79 (fi : FI) (p : Nat) (g : Int32) : kp [2124] fi (sp_79 fi p g) := by
  unfold sp_79
  exact (kp_up (kp_re [2124] fi) rfl)
set_option maxRecDepth 4000 in
theorem ct_79 {n : Nat} {E : xm_E} {c : Nat × Nat} {fi : FI} {fl : FL} {r : xm_I → Nat → Option xm_I} {d : Nat} {p : Nat} {g : Int32} (hs : sh n E c r) (hp : p < n + 1) : xm_C E (d + 1) true 79 [xm_r (20, 0, 0), xm_i (nI p), xm_i g] (c, fi, fl, r) (.inl (none), (c, (sp_79 fi p g), fl, r)) := by
  have hn := sh_n hs
  suffices key : ∀ R : xm_O, ((.inl (none), (c, (sp_79 fi p g), fl, r)) : xm_O) = R → xm_G E (d + 0) true 79 0 [some (xm_r (20, 0, 0)), some (xm_i (nI p)), some (xm_i g)] [] (c, fi, fl, r) R from go_inr (by decide) (Nat.le_of_ble_eq_true rfl) (key _ rfl)
  intro R hR
  refine pg_79_0 rfl ?_
  refine pg_79_1 (sk20 hs) (sr20_24 hs) ?_
  refine pg_79_4 rfl ?_
  refine pg_79_5 rfl ?_
  refine pg_79_6 (sk20 hs) ?_
  suffices KJ : xm_G E (d + 0) true 79 33 [some (xm_r (20, 0, 0)), some (xm_i (nI p)), some (xm_i g)] [xm_i (if (fi (20, 0, 0) 25) = 0 then (fi (21, 24, 0) p) else (if g = 0 then ((fi (21, 24, 0) p) + (1 : Int32)) else (fi (21, 24, 0) p))), xm_i (nI p), xm_r (21, 24, 0)] (c, fi, fl, r) R by
    refine pg_79_9 (fun hc1 => ?_) (fun hc2 => ?_)
    · refine pg_79_27 rfl ?_
      refine pg_79_28 (sk20 hs) (sr20_24 hs) ?_
      refine pg_79_31 rfl ?_
      refine pg_79_32 (Or.inl (sk21_24 hs)) (i := p) rfl (by omega) (by omega) ?_
      repeat rw [if_pos hc1] at KJ
      repeat rw [if_pos hc1]
      exact KJ
    · refine pg_79_12 rfl ?_
      refine pg_79_13 (fun hc3 => ?_) (fun hc4 => ?_)
      · refine pg_79_27 rfl ?_
        refine pg_79_28 (sk20 hs) (sr20_24 hs) ?_
        refine pg_79_31 rfl ?_
        refine pg_79_32 (Or.inl (sk21_24 hs)) (i := p) rfl (by omega) (by omega) ?_
        repeat rw [if_neg hc2] at KJ
        repeat rw [if_neg hc3] at KJ
        repeat rw [if_neg hc2]
        repeat rw [if_neg hc3]
        exact KJ
      · refine pg_79_16 rfl ?_
        refine pg_79_17 (sk20 hs) (sr20_24 hs) ?_
        refine pg_79_20 rfl ?_
        refine pg_79_21 (Or.inl (sk21_24 hs)) (i := p) rfl (by omega) (by omega) ?_
        refine pg_79_22 ?_
        refine pg_79_23 ?_
        refine pg_79_24 ?_
        repeat rw [if_neg hc2] at KJ
        repeat rw [if_pos hc4] at KJ
        repeat rw [if_neg hc2]
        repeat rw [if_pos hc4]
        exact KJ
  refine pg_79_33 (sk21_24 hs) (i := p) rfl (by omega) (by omega) ?_
  exact go_eq (hR.symm.trans (by unfold sp_79; all_goals rfl)) (pg_79_34)
-- 87: Model.hasVoice
def sp_87 (fi : FI) (p : Nat) (o : Nat) : Bool := if (fi (21, 14, 0) ((6 * p) + o)) = 0 then (false) else (if (fi (21, 16, 0) ((6 * p) + o)) = 0 then (false) else (true))
set_option maxRecDepth 4000 in
theorem ct_87 {n : Nat} {E : xm_E} {c : Nat × Nat} {fi : FI} {fl : FL} {r : xm_I → Nat → Option xm_I} {d : Nat} {md : Bool} {p : Nat} {o : Nat} (hs : sh n E c r) (hp : p < n) (ho : o < n) : xm_C E (d + 1) md 87 [xm_r (20, 0, 0), xm_i (nI p), xm_i (nI o)] (c, fi, fl, r) (.inl (some (xm_i (bI (sp_87 fi p o)))), (c, fi, fl, r)) := by
  have hn := sh_n hs
  suffices key : ∀ R : xm_O, ((.inl (some (xm_i (bI (sp_87 fi p o)))), (c, fi, fl, r)) : xm_O) = R → xm_G E (d + 0) md 87 0 [some (xm_r (20, 0, 0)), some (xm_i (nI p)), some (xm_i (nI o))] [] (c, fi, fl, r) R from go_inr (by decide) (Nat.le_of_ble_eq_true rfl) (key _ rfl)
  intro R hR
  refine pg_87_0 rfl ?_
  refine pg_87_1 (sk20 hs) (sr20_14 hs) ?_
  refine pg_87_4 ?_
  refine pg_87_6 rfl ?_
  refine pg_87_7 ?_
  refine pg_87_8 rfl ?_
  refine pg_87_9 ?_
  refine pg_87_10 (sk21_14 hs) (i := ((6 * p) + o)) (nx_add (nx_mul (rfl : (6 : Int32) = nI 6) rfl) rfl) (by omega) (by omega) ?_
  refine pg_87_11 (fun hc1 => ?_) (fun hc2 => ?_)
  · refine pg_87_32 ?_
    exact go_eq (hR.symm.trans (by unfold sp_87; try rw [if_pos hc1]; all_goals rfl)) (pg_87_33 (Or.inl rfl))
  · refine pg_87_14 rfl ?_
    refine pg_87_15 (sk20 hs) (sr20_16 hs) ?_
    refine pg_87_18 ?_
    refine pg_87_20 rfl ?_
    refine pg_87_21 ?_
    refine pg_87_22 rfl ?_
    refine pg_87_23 ?_
    refine pg_87_24 (sk21_16 hs) (i := ((6 * p) + o)) (nx_add (nx_mul (rfl : (6 : Int32) = nI 6) rfl) rfl) (by omega) (by omega) ?_
    refine pg_87_25 (fun hc3 => ?_) (fun hc4 => ?_)
    · refine pg_87_32 ?_
      exact go_eq (hR.symm.trans (by unfold sp_87; try rw [if_neg hc2]; try rw [if_pos hc3]; all_goals rfl)) (pg_87_33 (Or.inl rfl))
    · refine pg_87_28 ?_
      refine pg_87_29 ?_
      exact go_eq (hR.symm.trans (by unfold sp_87; try rw [if_neg hc2]; try rw [if_neg hc4]; all_goals rfl)) (pg_87_33 (Or.inr rfl))
-- 88: Model.upTo
def sp_88_6 (fi : FI) (p : Nat) (v : Int32) (t : Bool) (i1 : Nat) (s1 : Nat) : Nat := (if (bI (sp_87 fi p i1)) = 0 then s1 else (if (fi (21, 17, 0) ((6 * p) + i1)) < v then (s1 + 1) else (if (bI t) = 0 then s1 else (if (fi (21, 17, 0) ((6 * p) + i1)) = v then (s1 + 1) else s1))))
def sp_88 (n : Nat) (fi : FI) (p : Nat) (v : Int32) (t : Bool) : Nat := (lq_it n (sp_88_6 fi p v t) 0)
set_option maxRecDepth 4000 in
theorem ct_88 {n : Nat} {E : xm_E} {c : Nat × Nat} {fi : FI} {fl : FL} {r : xm_I → Nat → Option xm_I} {d : Nat} {md : Bool} {p : Nat} {v : Int32} {t : Bool} (hs : sh n E c r) (hp : p < n) (hf : fz n fi) : xm_C E (d + 2) md 88 [xm_r (20, 0, 0), xm_i (nI p), xm_i v, xm_i (bI t)] (c, fi, fl, r) (.inl (some (xm_i (nI (sp_88 n fi p v t)))), (c, fi, fl, r)) := by
  have hn := sh_n hs
  suffices key : ∀ R : xm_O, ((.inl (some (xm_i (nI (sp_88 n fi p v t)))), (c, fi, fl, r)) : xm_O) = R → xm_G E (d + 1) md 88 0 [some (xm_r (20, 0, 0)), some (xm_i (nI p)), some (xm_i v), some (xm_i (bI t)), none, none, none] [] (c, fi, fl, r) R from go_inr (by decide) (Nat.le_of_ble_eq_true rfl) (key _ rfl)
  intro R hR
  refine pg_88_0 ?_
  refine pg_88_1 (lv' := [some (xm_r (20, 0, 0)), some (xm_i (nI p)), some (xm_i v), some (xm_i (bI t)), some (xm_i (0 : Int32)), none, none]) rfl ?_
  refine pg_88_3 ?_
  refine pg_88_4 (lv' := [some (xm_r (20, 0, 0)), some (xm_i (nI p)), some (xm_i v), some (xm_i (bI t)), some (xm_i (0 : Int32)), some (xm_i (0 : Int32)), none]) rfl ?_
  refine (lq_loop (N := n) (f := sp_88_6 fi p v t) (s0 := 0) (P := fun i1 s1 => ∀ u6 : Option xm_V, xm_G E (d + 1) md 88 6 [some (xm_r (20, 0, 0)), some (xm_i (nI p)), some (xm_i v), some (xm_i (bI t)), some (xm_i (nI s1)), some (xm_i (nI i1)), u6] [] (c, fi, fl, r) R) ?_ ?_) _
  · intro i1 s1 hi1 K1 u6
    show xm_G E (d + 1) md 88 6 [some (xm_r (20, 0, 0)), some (xm_i (nI p)), some (xm_i v), some (xm_i (bI t)), some (xm_i (nI s1)), some (xm_i (nI i1)), u6] [] (c, fi, fl, r) R
    refine pg_88_6 rfl ?_
    refine pg_88_8 rfl ?_
    refine pg_88_9 (sk20 hs) ?_
    refine go_top (y := nI n) (fz_kp hf (kp_re [] fi) rfl rfl rfl).2 ?_
    refine pg_88_12 (fun hc => absurd hc (nx_nle (a := i1) (b := n) rfl rfl (by omega) (by omega))) (fun _ => ?_)
    refine pg_88_15 rfl ?_
    refine pg_88_16 (sk20 hs) (sr20_17 hs) ?_
    refine pg_88_19 ?_
    refine pg_88_21 rfl ?_
    refine pg_88_22 ?_
    refine go_top (y := nI (6 * p)) (nx_mul (rfl : (6 : Int32) = nI 6) rfl) ?_
    refine pg_88_23 rfl ?_
    refine pg_88_25 ?_
    refine go_top (y := nI ((6 * p) + i1)) (nx_add rfl rfl) ?_
    refine pg_88_26 (Or.inl (sk21_17 hs)) (i := ((6 * p) + i1)) rfl (by omega) (by omega) ?_
    refine pg_88_27 (lv' := [some (xm_r (20, 0, 0)), some (xm_i (nI p)), some (xm_i v), some (xm_i (bI t)), some (xm_i (nI s1)), some (xm_i (nI i1)), some (xm_i (fi (21, 17, 0) ((6 * p) + i1)))]) rfl ?_
    refine pg_88_29 rfl ?_
    refine pg_88_30 rfl ?_
    refine pg_88_31 rfl ?_
    refine pg_88_33 (sk20 hs) (Nat.le_of_ble_eq_true rfl) (ct_87 (p := p) (o := i1) hs (by omega) (by omega)) ?_
    suffices KJ : xm_G E (d + 1) md 88 64 [some (xm_r (20, 0, 0)), some (xm_i (nI p)), some (xm_i v), some (xm_i (bI t)), some (xm_i (nI s1)), some (xm_i (nI i1)), some (xm_i (fi (21, 17, 0) ((6 * p) + i1)))] [xm_i (nI (if (bI (sp_87 fi p i1)) = 0 then s1 else (if (fi (21, 17, 0) ((6 * p) + i1)) < v then (s1 + 1) else (if (bI t) = 0 then s1 else (if (fi (21, 17, 0) ((6 * p) + i1)) = v then (s1 + 1) else s1)))))] (c, fi, fl, r) R by
      refine pg_88_36 (fun hc1 => ?_) (fun hc2 => ?_)
      · refine pg_88_62 rfl ?_
        repeat rw [if_pos hc1] at KJ
        repeat rw [if_pos hc1]
        exact KJ
      · refine pg_88_39 rfl ?_
        refine pg_88_41 rfl ?_
        refine pg_88_42 (fun hc3 => ?_) (fun hc4 => ?_)
        · refine pg_88_55 rfl ?_
          refine pg_88_57 ?_
          refine pg_88_58 ?_
          refine go_top (y := nI (s1 + 1)) (nx_add rfl (rfl : (1 : Int32) = nI 1)) ?_
          refine pg_88_59 ?_
          repeat rw [if_neg hc2] at KJ
          repeat rw [if_pos hc3] at KJ
          repeat rw [if_neg hc2]
          repeat rw [if_pos hc3]
          exact KJ
        · refine pg_88_45 rfl ?_
          refine pg_88_46 (fun hc5 => ?_) (fun hc6 => ?_)
          · refine pg_88_62 rfl ?_
            repeat rw [if_neg hc2] at KJ
            repeat rw [if_neg hc4] at KJ
            repeat rw [if_pos hc5] at KJ
            repeat rw [if_neg hc2]
            repeat rw [if_neg hc4]
            repeat rw [if_pos hc5]
            exact KJ
          · refine pg_88_49 rfl ?_
            refine pg_88_51 rfl ?_
            refine pg_88_52 (fun hc7 => ?_) (fun hc8 => ?_)
            · refine pg_88_62 rfl ?_
              repeat rw [if_neg hc2] at KJ
              repeat rw [if_neg hc4] at KJ
              repeat rw [if_neg hc6] at KJ
              repeat rw [if_neg hc7] at KJ
              repeat rw [if_neg hc2]
              repeat rw [if_neg hc4]
              repeat rw [if_neg hc6]
              repeat rw [if_neg hc7]
              exact KJ
            · refine pg_88_55 rfl ?_
              refine pg_88_57 ?_
              refine pg_88_58 ?_
              refine go_top (y := nI (s1 + 1)) (nx_add rfl (rfl : (1 : Int32) = nI 1)) ?_
              refine pg_88_59 ?_
              repeat rw [if_neg hc2] at KJ
              repeat rw [if_neg hc4] at KJ
              repeat rw [if_neg hc6] at KJ
              repeat rw [if_pos hc8] at KJ
              repeat rw [if_neg hc2]
              repeat rw [if_neg hc4]
              repeat rw [if_neg hc6]
              repeat rw [if_pos hc8]
              exact KJ
    refine pg_88_64 (lv' := [some (xm_r (20, 0, 0)), some (xm_i (nI p)), some (xm_i v), some (xm_i (bI t)), some (xm_i (nI (if (bI (sp_87 fi p i1)) = 0 then s1 else (if (fi (21, 17, 0) ((6 * p) + i1)) < v then (s1 + 1) else (if (bI t) = 0 then s1 else (if (fi (21, 17, 0) ((6 * p) + i1)) = v then (s1 + 1) else s1)))))), some (xm_i (nI i1)), some (xm_i (fi (21, 17, 0) ((6 * p) + i1)))]) rfl ?_
    refine pg_88_66 (y := (nI (i1 + 1))) (lv' := [some (xm_r (20, 0, 0)), some (xm_i (nI p)), some (xm_i v), some (xm_i (bI t)), some (xm_i (nI (if (bI (sp_87 fi p i1)) = 0 then s1 else (if (fi (21, 17, 0) ((6 * p) + i1)) < v then (s1 + 1) else (if (bI t) = 0 then s1 else (if (fi (21, 17, 0) ((6 * p) + i1)) = v then (s1 + 1) else s1)))))), some (xm_i (nI (i1 + 1))), some (xm_i (fi (21, 17, 0) ((6 * p) + i1)))]) rfl (nI_1 i1) rfl ?_
    refine pg_88_69 ?_
    exact K1 (if (bI (sp_87 fi p i1)) = 0 then s1 else (if (fi (21, 17, 0) ((6 * p) + i1)) < v then (s1 + 1) else (if (bI t) = 0 then s1 else (if (fi (21, 17, 0) ((6 * p) + i1)) = v then (s1 + 1) else s1)))) (by unfold sp_88_6; all_goals rfl) _
  · intro u6
    show xm_G E (d + 1) md 88 6 [some (xm_r (20, 0, 0)), some (xm_i (nI p)), some (xm_i v), some (xm_i (bI t)), some (xm_i (nI (lq_it n (sp_88_6 fi p v t) 0))), some (xm_i (nI n)), u6] [] (c, fi, fl, r) R
    refine pg_88_6 rfl ?_
    refine pg_88_8 rfl ?_
    refine pg_88_9 (sk20 hs) ?_
    refine go_top (y := nI n) (fz_kp hf (kp_re [] fi) rfl rfl rfl).2 ?_
    refine pg_88_12 (fun _ => ?_) (fun hc => absurd (nx_le (a := n) (b := n) rfl rfl (by omega) (by omega)) hc)
    refine pg_88_72 rfl ?_
    exact go_eq (hR.symm.trans (by unfold sp_88; all_goals rfl)) (pg_88_74)
-- 93: Model.partOf
def sp_93_32 (fi : FI) (p : Nat) (o : Nat) (i1 : Nat) (s1 : Int32) : Int32 := (if (nI o) = (2 : Int32) then (if (fi (21, 14, 0) ((6 * p) + i1)) = 0 then (if (nI o) = (3 : Int32) then (s1 ||| ((fi (21, 15, 0) ((6 * p) + i1)) <<< ((nI (4 * i1)) &&& 31))) else s1) else (s1 ||| ((1 : Int32) <<< ((nI i1) &&& 31)))) else (if (nI o) = (3 : Int32) then (s1 ||| ((fi (21, 15, 0) ((6 * p) + i1)) <<< ((nI (4 * i1)) &&& 31))) else s1))
def sp_93 (n : Nat) (fi : FI) (p : Nat) (o : Nat) : Int32 := (lq_it n (sp_93_32 fi p o) (if (nI o) = 0 then (fi (21, 12, 0) p) else (if (nI o) = (1 : Int32) then (fi (21, 13, 0) p) else (0 : Int32))))
set_option maxRecDepth 4000 in
theorem ct_93 {n : Nat} {E : xm_E} {c : Nat × Nat} {fi : FI} {fl : FL} {r : xm_I → Nat → Option xm_I} {d : Nat} {md : Bool} {p : Nat} {o : Nat} (hs : sh n E c r) (hp : p < n) (hf : fz n fi) : xm_C E (d + 1) md 93 [xm_r (20, 0, 0), xm_i (nI p), xm_i (nI o)] (c, fi, fl, r) (.inl (some (xm_i (sp_93 n fi p o))), (c, fi, fl, r)) := by
  have hn := sh_n hs
  suffices key : ∀ R : xm_O, ((.inl (some (xm_i (sp_93 n fi p o))), (c, fi, fl, r)) : xm_O) = R → xm_G E (d + 0) md 93 0 [some (xm_r (20, 0, 0)), some (xm_i (nI p)), some (xm_i (nI o)), none, none] [] (c, fi, fl, r) R from go_inr (by decide) (Nat.le_of_ble_eq_true rfl) (key _ rfl)
  intro R hR
  refine pg_93_0 rfl ?_
  suffices KJ : xm_G E (d + 0) md 93 28 [some (xm_r (20, 0, 0)), some (xm_i (nI p)), some (xm_i (nI o)), none, none] [xm_i (if (nI o) = 0 then (fi (21, 12, 0) p) else (if (nI o) = (1 : Int32) then (fi (21, 13, 0) p) else (0 : Int32)))] (c, fi, fl, r) R by
    refine pg_93_1 (fun hc1 => ?_) (fun hc2 => ?_)
    · refine pg_93_13 rfl ?_
      refine pg_93_14 ?_
      refine pg_93_15 (fun hc3 => ?_) (fun hc4 => ?_)
      · refine pg_93_27 ?_
        repeat rw [if_neg hc1] at KJ
        repeat rw [if_neg hc3] at KJ
        repeat rw [if_neg hc1]
        repeat rw [if_neg hc3]
        exact KJ
      · refine pg_93_18 rfl ?_
        refine pg_93_19 (sk20 hs) (sr20_13 hs) ?_
        refine pg_93_22 rfl ?_
        refine pg_93_23 (Or.inl (sk21_13 hs)) (i := p) rfl (by omega) (by omega) ?_
        refine pg_93_24 ?_
        repeat rw [if_neg hc1] at KJ
        repeat rw [if_pos hc4] at KJ
        repeat rw [if_neg hc1]
        repeat rw [if_pos hc4]
        exact KJ
    · refine pg_93_4 rfl ?_
      refine pg_93_5 (sk20 hs) (sr20_12 hs) ?_
      refine pg_93_8 rfl ?_
      refine pg_93_9 (Or.inl (sk21_12 hs)) (i := p) rfl (by omega) (by omega) ?_
      refine pg_93_10 ?_
      repeat rw [if_pos hc2] at KJ
      repeat rw [if_pos hc2]
      exact KJ
  refine pg_93_28 (lv' := [some (xm_r (20, 0, 0)), some (xm_i (nI p)), some (xm_i (nI o)), some (xm_i (if (nI o) = 0 then (fi (21, 12, 0) p) else (if (nI o) = (1 : Int32) then (fi (21, 13, 0) p) else (0 : Int32)))), none]) rfl ?_
  refine pg_93_29 ?_
  refine pg_93_30 (lv' := [some (xm_r (20, 0, 0)), some (xm_i (nI p)), some (xm_i (nI o)), some (xm_i (if (nI o) = 0 then (fi (21, 12, 0) p) else (if (nI o) = (1 : Int32) then (fi (21, 13, 0) p) else (0 : Int32)))), some (xm_i (0 : Int32))]) rfl ?_
  refine (lq_loop (N := n) (f := sp_93_32 fi p o) (s0 := (if (nI o) = 0 then (fi (21, 12, 0) p) else (if (nI o) = (1 : Int32) then (fi (21, 13, 0) p) else (0 : Int32)))) (P := fun i1 s1 => xm_G E (d + 0) md 93 32 [some (xm_r (20, 0, 0)), some (xm_i (nI p)), some (xm_i (nI o)), some (xm_i s1), some (xm_i (nI i1))] [] (c, fi, fl, r) R) ?_ ?_)
  · intro i1 s1 hi1 K1
    show xm_G E (d + 0) md 93 32 [some (xm_r (20, 0, 0)), some (xm_i (nI p)), some (xm_i (nI o)), some (xm_i s1), some (xm_i (nI i1))] [] (c, fi, fl, r) R
    refine pg_93_32 rfl ?_
    refine pg_93_34 rfl ?_
    refine pg_93_35 (sk20 hs) ?_
    refine go_top (y := nI n) (fz_kp hf (kp_re [] fi) rfl rfl rfl).2 ?_
    refine pg_93_38 (fun hc => absurd hc (nx_nle (a := i1) (b := n) rfl rfl (by omega) (by omega))) (fun _ => ?_)
    refine pg_93_41 rfl ?_
    refine pg_93_42 ?_
    suffices KJ : xm_G E (d + 0) md 93 98 [some (xm_r (20, 0, 0)), some (xm_i (nI p)), some (xm_i (nI o)), some (xm_i s1), some (xm_i (nI i1))] [xm_i (if (nI o) = (2 : Int32) then (if (fi (21, 14, 0) ((6 * p) + i1)) = 0 then (if (nI o) = (3 : Int32) then (s1 ||| ((fi (21, 15, 0) ((6 * p) + i1)) <<< ((nI (4 * i1)) &&& 31))) else s1) else (s1 ||| ((1 : Int32) <<< ((nI i1) &&& 31)))) else (if (nI o) = (3 : Int32) then (s1 ||| ((fi (21, 15, 0) ((6 * p) + i1)) <<< ((nI (4 * i1)) &&& 31))) else s1))] (c, fi, fl, r) R by
      refine pg_93_43 (fun hc5 => ?_) (fun hc6 => ?_)
      · refine pg_93_70 rfl ?_
        refine pg_93_71 ?_
        refine pg_93_72 (fun hc7 => ?_) (fun hc8 => ?_)
        · refine pg_93_97 rfl ?_
          repeat rw [if_neg hc5] at KJ
          repeat rw [if_neg hc7] at KJ
          repeat rw [if_neg hc5]
          repeat rw [if_neg hc7]
          exact KJ
        · refine pg_93_75 rfl ?_
          refine pg_93_76 rfl ?_
          refine pg_93_77 (sk20 hs) (sr20_15 hs) ?_
          refine pg_93_80 ?_
          refine pg_93_82 rfl ?_
          refine pg_93_83 ?_
          refine go_top (y := nI (6 * p)) (nx_mul (rfl : (6 : Int32) = nI 6) rfl) ?_
          refine pg_93_84 rfl ?_
          refine pg_93_86 ?_
          refine go_top (y := nI ((6 * p) + i1)) (nx_add rfl rfl) ?_
          refine pg_93_87 (Or.inl (sk21_15 hs)) (i := ((6 * p) + i1)) rfl (by omega) (by omega) ?_
          refine pg_93_88 ?_
          refine pg_93_89 rfl ?_
          refine pg_93_91 ?_
          refine go_top (y := nI (4 * i1)) (nx_mul (rfl : (4 : Int32) = nI 4) rfl) ?_
          refine pg_93_92 ?_
          refine pg_93_93 ?_
          refine pg_93_94 ?_
          repeat rw [if_neg hc5] at KJ
          repeat rw [if_pos hc8] at KJ
          repeat rw [if_neg hc5]
          repeat rw [if_pos hc8]
          exact KJ
      · refine pg_93_46 rfl ?_
        refine pg_93_47 (sk20 hs) (sr20_14 hs) ?_
        refine pg_93_50 ?_
        refine pg_93_52 rfl ?_
        refine pg_93_53 ?_
        refine go_top (y := nI (6 * p)) (nx_mul (rfl : (6 : Int32) = nI 6) rfl) ?_
        refine pg_93_54 rfl ?_
        refine pg_93_56 ?_
        refine go_top (y := nI ((6 * p) + i1)) (nx_add rfl rfl) ?_
        refine pg_93_57 (sk21_14 hs) (i := ((6 * p) + i1)) rfl (by omega) (by omega) ?_
        refine pg_93_58 (fun hc9 => ?_) (fun hc10 => ?_)
        · refine pg_93_70 rfl ?_
          refine pg_93_71 ?_
          refine pg_93_72 (fun hc11 => ?_) (fun hc12 => ?_)
          · refine pg_93_97 rfl ?_
            repeat rw [if_pos hc6] at KJ
            repeat rw [if_pos hc9] at KJ
            repeat rw [if_neg hc11] at KJ
            repeat rw [if_pos hc6]
            repeat rw [if_pos hc9]
            repeat rw [if_neg hc11]
            exact KJ
          · refine pg_93_75 rfl ?_
            refine pg_93_76 rfl ?_
            refine pg_93_77 (sk20 hs) (sr20_15 hs) ?_
            refine pg_93_80 ?_
            refine pg_93_82 rfl ?_
            refine pg_93_83 ?_
            refine go_top (y := nI (6 * p)) (nx_mul (rfl : (6 : Int32) = nI 6) rfl) ?_
            refine pg_93_84 rfl ?_
            refine pg_93_86 ?_
            refine go_top (y := nI ((6 * p) + i1)) (nx_add rfl rfl) ?_
            refine pg_93_87 (Or.inl (sk21_15 hs)) (i := ((6 * p) + i1)) rfl (by omega) (by omega) ?_
            refine pg_93_88 ?_
            refine pg_93_89 rfl ?_
            refine pg_93_91 ?_
            refine go_top (y := nI (4 * i1)) (nx_mul (rfl : (4 : Int32) = nI 4) rfl) ?_
            refine pg_93_92 ?_
            refine pg_93_93 ?_
            refine pg_93_94 ?_
            repeat rw [if_pos hc6] at KJ
            repeat rw [if_pos hc9] at KJ
            repeat rw [if_pos hc12] at KJ
            repeat rw [if_pos hc6]
            repeat rw [if_pos hc9]
            repeat rw [if_pos hc12]
            exact KJ
        · refine pg_93_61 rfl ?_
          refine pg_93_62 ?_
          refine pg_93_63 rfl ?_
          refine pg_93_65 ?_
          refine pg_93_66 ?_
          refine pg_93_67 ?_
          repeat rw [if_pos hc6] at KJ
          repeat rw [if_neg hc10] at KJ
          repeat rw [if_pos hc6]
          repeat rw [if_neg hc10]
          exact KJ
    refine pg_93_98 (lv' := [some (xm_r (20, 0, 0)), some (xm_i (nI p)), some (xm_i (nI o)), some (xm_i (if (nI o) = (2 : Int32) then (if (fi (21, 14, 0) ((6 * p) + i1)) = 0 then (if (nI o) = (3 : Int32) then (s1 ||| ((fi (21, 15, 0) ((6 * p) + i1)) <<< ((nI (4 * i1)) &&& 31))) else s1) else (s1 ||| ((1 : Int32) <<< ((nI i1) &&& 31)))) else (if (nI o) = (3 : Int32) then (s1 ||| ((fi (21, 15, 0) ((6 * p) + i1)) <<< ((nI (4 * i1)) &&& 31))) else s1))), some (xm_i (nI i1))]) rfl ?_
    refine pg_93_99 (y := (nI (i1 + 1))) (lv' := [some (xm_r (20, 0, 0)), some (xm_i (nI p)), some (xm_i (nI o)), some (xm_i (if (nI o) = (2 : Int32) then (if (fi (21, 14, 0) ((6 * p) + i1)) = 0 then (if (nI o) = (3 : Int32) then (s1 ||| ((fi (21, 15, 0) ((6 * p) + i1)) <<< ((nI (4 * i1)) &&& 31))) else s1) else (s1 ||| ((1 : Int32) <<< ((nI i1) &&& 31)))) else (if (nI o) = (3 : Int32) then (s1 ||| ((fi (21, 15, 0) ((6 * p) + i1)) <<< ((nI (4 * i1)) &&& 31))) else s1))), some (xm_i (nI (i1 + 1)))]) rfl (nI_1 i1) rfl ?_
    refine pg_93_102 ?_
    exact K1 (if (nI o) = (2 : Int32) then (if (fi (21, 14, 0) ((6 * p) + i1)) = 0 then (if (nI o) = (3 : Int32) then (s1 ||| ((fi (21, 15, 0) ((6 * p) + i1)) <<< ((nI (4 * i1)) &&& 31))) else s1) else (s1 ||| ((1 : Int32) <<< ((nI i1) &&& 31)))) else (if (nI o) = (3 : Int32) then (s1 ||| ((fi (21, 15, 0) ((6 * p) + i1)) <<< ((nI (4 * i1)) &&& 31))) else s1)) (by unfold sp_93_32; all_goals rfl)
  · skip
    show xm_G E (d + 0) md 93 32 [some (xm_r (20, 0, 0)), some (xm_i (nI p)), some (xm_i (nI o)), some (xm_i (lq_it n (sp_93_32 fi p o) (if (nI o) = 0 then (fi (21, 12, 0) p) else (if (nI o) = (1 : Int32) then (fi (21, 13, 0) p) else (0 : Int32))))), some (xm_i (nI n))] [] (c, fi, fl, r) R
    refine pg_93_32 rfl ?_
    refine pg_93_34 rfl ?_
    refine pg_93_35 (sk20 hs) ?_
    refine go_top (y := nI n) (fz_kp hf (kp_re [] fi) rfl rfl rfl).2 ?_
    refine pg_93_38 (fun _ => ?_) (fun hc => absurd (nx_le (a := n) (b := n) rfl rfl (by omega) (by omega)) hc)
    refine pg_93_105 rfl ?_
    exact go_eq (hR.symm.trans (by unfold sp_93; all_goals rfl)) (pg_93_106)
-- 84: Model.ballot
def sp_84 (fi : FI) (b : Int32) (x : Int32) (w : Nat) : FI := (xm_up (xm_up (xm_up fi (21, 37, 0) w b) (21, 38, 0) w x) (20, 0, 0) 36 (nI (w + 1)))
theorem kp_sp_84 (fi : FI) (b : Int32) (x : Int32) (w : Nat) : kp [2036, 2137, 2138] fi (sp_84 fi b x w) := by
  unfold sp_84
  exact (kp_up (kp_up (kp_up (kp_re [2036, 2137, 2138] fi) rfl) rfl) rfl)
set_option maxRecDepth 4000 in
theorem ct_84 {n : Nat} {E : xm_E} {c : Nat × Nat} {fi : FI} {fl : FL} {r : xm_I → Nat → Option xm_I} {d : Nat} {b : Int32} {x : Int32} {w : Nat} (hs : sh n E c r) (hw : w < 6) (hvt : fi (20, 0, 0) 36 = nI w) (hb0 : b = 0 ∨ b = 1) : xm_C E (d + 1) true 84 [xm_r (20, 0, 0), xm_i b, xm_i x] (c, fi, fl, r) (.inl (none), (c, (sp_84 fi b x w), fl, r)) := by
  have hn := sh_n hs
  suffices key : ∀ R : xm_O, ((.inl (none), (c, (sp_84 fi b x w), fl, r)) : xm_O) = R → xm_G E (d + 0) true 84 0 [some (xm_r (20, 0, 0)), some (xm_i b), some (xm_i x)] [] (c, fi, fl, r) R from go_inr (by decide) (Nat.le_of_ble_eq_true rfl) (key _ rfl)
  intro R hR
  refine pg_84_0 rfl ?_
  refine pg_84_1 (sk20 hs) (sr20_37 hs) ?_
  refine pg_84_4 rfl ?_
  refine pg_84_5 (sk20 hs) ?_
  refine go_top (y := nI w) (show fi (20, 0, 0) 36 = nI w from by simp [xm_up, hvt]) ?_
  refine pg_84_8 rfl ?_
  refine pg_84_9 (sk21_37 hs) (i := w) rfl (by omega) (by omega) hb0 ?_
  refine pg_84_10 rfl ?_
  refine pg_84_11 (sk20 hs) (sr20_38 hs) ?_
  refine pg_84_14 rfl ?_
  refine pg_84_15 (sk20 hs) ?_
  refine go_top (y := nI w) (show (xm_up fi (21, 37, 0) w b) (20, 0, 0) 36 = nI w from by simp [xm_up, hvt]) ?_
  refine pg_84_18 rfl ?_
  refine pg_84_19 (sk21_38 hs) (i := w) rfl (by omega) (by omega) ?_
  refine pg_84_20 rfl ?_
  refine pg_84_21 rfl ?_
  refine pg_84_22 (sk20 hs) ?_
  refine go_top (y := nI w) (show (xm_up (xm_up fi (21, 37, 0) w b) (21, 38, 0) w x) (20, 0, 0) 36 = nI w from by simp [xm_up, hvt]) ?_
  refine pg_84_25 ?_
  refine pg_84_26 ?_
  refine go_top (y := nI (w + 1)) (nx_add rfl (rfl : (1 : Int32) = nI 1)) ?_
  refine pg_84_27 (sk20 hs) ?_
  exact go_eq (hR.symm.trans (by unfold sp_84; all_goals rfl)) (pg_84_30)
-- 85: Model.wins
def sp_85_18 (i1 : Nat) (s1 : Bool × FI) (i2 : Nat) (s2 : Nat) : Nat := (if (s1.2 (21, 37, 0) i1) = 0 then s2 else (if (s1.2 (21, 37, 0) i2) = 0 then s2 else (if (s1.2 (21, 38, 0) i1) = (s1.2 (21, 38, 0) i2) then (s2 + 1) else s2)))
def sp_85_4 (x : Int32) (w : Nat) (i1 : Nat) (s1 : Bool × FI) : Bool × FI := if (nI (2 * (lq_it w (sp_85_18 i1 s1) 0))) ≤ x then ((s1.1, s1.2)) else ((true, (xm_up s1.2 (20, 0, 0) 39 (s1.2 (21, 38, 0) i1))))
theorem kp_sp_85_4 (x : Int32) (w : Nat) (i1 : Nat) (s1 : Bool × FI) : kp [2039] s1.2 ((sp_85_4 x w i1 s1).2) := by
  unfold sp_85_4
  rcases Classical.em ((nI (2 * (lq_it w (sp_85_18 i1 s1) 0))) ≤ x) with hc | hc
  · (try rw [if_pos hc])
    exact (kp_re [2039] s1.2)
  · (try rw [if_neg hc])
    exact (kp_up (kp_re [2039] s1.2) rfl)
def sp_85 (fi : FI) (x : Int32) (w : Nat) : Bool × FI := (((lq_it w (sp_85_4 x w) (false, fi)).1), ((lq_it w (sp_85_4 x w) (false, fi)).2))
theorem kp_sp_85 (fi : FI) (x : Int32) (w : Nat) : kp [2039] fi ((sp_85 fi x w).2) := by
  unfold sp_85
  exact (kp_tr (kp_re [2039] fi) rfl (kp_it (L := [2039]) (p := fun (s : Bool × FI) => s.2) (N := w) (F := sp_85_4 x w) (s0 := (false, fi)) (kp_re [2039] fi) (fun i s => kp_sp_85_4 x w i s)))
set_option maxRecDepth 4000 in
theorem ct_85 {n : Nat} {E : xm_E} {c : Nat × Nat} {fi : FI} {fl : FL} {r : xm_I → Nat → Option xm_I} {d : Nat} {x : Int32} {w : Nat} (hs : sh n E c r) (hw : w ≤ 6) (hvt : fi (20, 0, 0) 36 = nI w) : xm_C E (d + 1) true 85 [xm_r (20, 0, 0), xm_i x] (c, fi, fl, r) (.inl (some (xm_i (bI ((sp_85 fi x w).1)))), (c, (sp_85 fi x w).2, fl, r)) := by
  have hn := sh_n hs
  suffices key : ∀ R : xm_O, ((.inl (some (xm_i (bI ((sp_85 fi x w).1)))), (c, (sp_85 fi x w).2, fl, r)) : xm_O) = R → xm_G E (d + 0) true 85 0 [some (xm_r (20, 0, 0)), some (xm_i x), none, none, none, none] [] (c, fi, fl, r) R from go_inr (by decide) (Nat.le_of_ble_eq_true rfl) (key _ rfl)
  intro R hR
  refine pg_85_0 ?_
  refine pg_85_1 (lv' := [some (xm_r (20, 0, 0)), some (xm_i x), some (xm_i (0 : Int32)), none, none, none]) rfl ?_
  refine pg_85_2 ?_
  refine pg_85_3 (lv' := [some (xm_r (20, 0, 0)), some (xm_i x), some (xm_i (0 : Int32)), some (xm_i (0 : Int32)), none, none]) rfl ?_
  refine (lq_li (N := w) (f := sp_85_4 x w) (s0 := (false, fi)) (P := fun i1 s1 => ∀ u4 : Option xm_V, ∀ u5 : Option xm_V, xm_G E (d + 0) true 85 4 [some (xm_r (20, 0, 0)), some (xm_i x), some (xm_i (bI s1.1)), some (xm_i (nI i1)), u4, u5] [] (c, s1.2, fl, r) R) (I := fun i1 s1 => kp [2039] fi s1.2) (kp_re [2039] _) (fun i1 s1 hi1 hk1 => kp_tr hk1 rfl (kp_sp_85_4 x w i1 s1)) ?_ ?_) _ _
  · intro i1 s1 hi1 hk1 K1 u4 u5
    show xm_G E (d + 0) true 85 4 [some (xm_r (20, 0, 0)), some (xm_i x), some (xm_i (bI s1.1)), some (xm_i (nI i1)), u4, u5] [] (c, s1.2, fl, r) R
    refine pg_85_4 rfl ?_
    refine pg_85_5 rfl ?_
    refine pg_85_6 (sk20 hs) ?_
    refine go_top (y := nI w) (kp_at (kp_tr (kp_tr (kp_re [2039] fi) rfl hk1) rfl (kp_re [2039] s1.2)) (20, 0, 0) 36 rfl hvt) ?_
    refine pg_85_9 (fun hc => absurd hc (nx_nle (a := i1) (b := w) rfl rfl (by omega) (by omega))) (fun _ => ?_)
    refine pg_85_12 ?_
    refine pg_85_13 (lv' := [some (xm_r (20, 0, 0)), some (xm_i x), some (xm_i (bI s1.1)), some (xm_i (nI i1)), some (xm_i (0 : Int32)), u5]) rfl ?_
    refine pg_85_15 ?_
    refine pg_85_16 (lv' := [some (xm_r (20, 0, 0)), some (xm_i x), some (xm_i (bI s1.1)), some (xm_i (nI i1)), some (xm_i (0 : Int32)), some (xm_i (0 : Int32))]) rfl ?_
    refine (lq_loop (N := w) (f := sp_85_18 i1 s1) (s0 := 0) (P := fun i2 s2 => xm_G E (d + 0) true 85 18 [some (xm_r (20, 0, 0)), some (xm_i x), some (xm_i (bI s1.1)), some (xm_i (nI i1)), some (xm_i (nI s2)), some (xm_i (nI i2))] [] (c, s1.2, fl, r) R) ?_ ?_)
    · intro i2 s2 hi2 K2
      show xm_G E (d + 0) true 85 18 [some (xm_r (20, 0, 0)), some (xm_i x), some (xm_i (bI s1.1)), some (xm_i (nI i1)), some (xm_i (nI s2)), some (xm_i (nI i2))] [] (c, s1.2, fl, r) R
      refine pg_85_18 rfl ?_
      refine pg_85_20 rfl ?_
      refine pg_85_21 (sk20 hs) ?_
      refine go_top (y := nI w) (kp_at (kp_tr (kp_tr (kp_re [2039] fi) rfl hk1) rfl (kp_re [2039] s1.2)) (20, 0, 0) 36 rfl hvt) ?_
      refine pg_85_24 (fun hc => absurd hc (nx_nle (a := i2) (b := w) rfl rfl (by omega) (by omega))) (fun _ => ?_)
      refine pg_85_27 rfl ?_
      refine pg_85_28 (sk20 hs) (sr20_37 hs) ?_
      refine pg_85_31 rfl ?_
      refine pg_85_32 (sk21_37 hs) (i := i1) rfl (by omega) (by omega) ?_
      suffices KJ : xm_G E (d + 0) true 85 71 [some (xm_r (20, 0, 0)), some (xm_i x), some (xm_i (bI s1.1)), some (xm_i (nI i1)), some (xm_i (nI s2)), some (xm_i (nI i2))] [xm_i (nI (if (s1.2 (21, 37, 0) i1) = 0 then s2 else (if (s1.2 (21, 37, 0) i2) = 0 then s2 else (if (s1.2 (21, 38, 0) i1) = (s1.2 (21, 38, 0) i2) then (s2 + 1) else s2))))] (c, s1.2, fl, r) R by
        refine pg_85_33 (fun hc1 => ?_) (fun hc2 => ?_)
        · refine pg_85_69 rfl ?_
          repeat rw [if_pos hc1] at KJ
          repeat rw [if_pos hc1]
          exact KJ
        · refine pg_85_36 rfl ?_
          refine pg_85_37 (sk20 hs) (sr20_37 hs) ?_
          refine pg_85_40 rfl ?_
          refine pg_85_42 (sk21_37 hs) (i := i2) rfl (by omega) (by omega) ?_
          refine pg_85_43 (fun hc3 => ?_) (fun hc4 => ?_)
          · refine pg_85_69 rfl ?_
            repeat rw [if_neg hc2] at KJ
            repeat rw [if_pos hc3] at KJ
            repeat rw [if_neg hc2]
            repeat rw [if_pos hc3]
            exact KJ
          · refine pg_85_46 rfl ?_
            refine pg_85_47 (sk20 hs) (sr20_38 hs) ?_
            refine pg_85_50 rfl ?_
            refine pg_85_51 (Or.inl (sk21_38 hs)) (i := i1) rfl (by omega) (by omega) ?_
            refine pg_85_52 rfl ?_
            refine pg_85_53 (sk20 hs) (sr20_38 hs) ?_
            refine pg_85_56 rfl ?_
            refine pg_85_58 (Or.inl (sk21_38 hs)) (i := i2) rfl (by omega) (by omega) ?_
            refine pg_85_59 (fun hc5 => ?_) (fun hc6 => ?_)
            · refine pg_85_69 rfl ?_
              repeat rw [if_neg hc2] at KJ
              repeat rw [if_neg hc4] at KJ
              repeat rw [if_neg hc5] at KJ
              repeat rw [if_neg hc2]
              repeat rw [if_neg hc4]
              repeat rw [if_neg hc5]
              exact KJ
            · refine pg_85_62 rfl ?_
              refine pg_85_64 ?_
              refine pg_85_65 ?_
              refine go_top (y := nI (s2 + 1)) (nx_add rfl (rfl : (1 : Int32) = nI 1)) ?_
              refine pg_85_66 ?_
              repeat rw [if_neg hc2] at KJ
              repeat rw [if_neg hc4] at KJ
              repeat rw [if_pos hc6] at KJ
              repeat rw [if_neg hc2]
              repeat rw [if_neg hc4]
              repeat rw [if_pos hc6]
              exact KJ
      refine pg_85_71 (lv' := [some (xm_r (20, 0, 0)), some (xm_i x), some (xm_i (bI s1.1)), some (xm_i (nI i1)), some (xm_i (nI (if (s1.2 (21, 37, 0) i1) = 0 then s2 else (if (s1.2 (21, 37, 0) i2) = 0 then s2 else (if (s1.2 (21, 38, 0) i1) = (s1.2 (21, 38, 0) i2) then (s2 + 1) else s2))))), some (xm_i (nI i2))]) rfl ?_
      refine pg_85_73 (y := (nI (i2 + 1))) (lv' := [some (xm_r (20, 0, 0)), some (xm_i x), some (xm_i (bI s1.1)), some (xm_i (nI i1)), some (xm_i (nI (if (s1.2 (21, 37, 0) i1) = 0 then s2 else (if (s1.2 (21, 37, 0) i2) = 0 then s2 else (if (s1.2 (21, 38, 0) i1) = (s1.2 (21, 38, 0) i2) then (s2 + 1) else s2))))), some (xm_i (nI (i2 + 1)))]) rfl (nI_1 i2) rfl ?_
      refine pg_85_76 ?_
      exact K2 (if (s1.2 (21, 37, 0) i1) = 0 then s2 else (if (s1.2 (21, 37, 0) i2) = 0 then s2 else (if (s1.2 (21, 38, 0) i1) = (s1.2 (21, 38, 0) i2) then (s2 + 1) else s2))) (by unfold sp_85_18; all_goals rfl)
    · skip
      show xm_G E (d + 0) true 85 18 [some (xm_r (20, 0, 0)), some (xm_i x), some (xm_i (bI s1.1)), some (xm_i (nI i1)), some (xm_i (nI (lq_it w (sp_85_18 i1 s1) 0))), some (xm_i (nI w))] [] (c, s1.2, fl, r) R
      refine pg_85_18 rfl ?_
      refine pg_85_20 rfl ?_
      refine pg_85_21 (sk20 hs) ?_
      refine go_top (y := nI w) (kp_at (kp_tr (kp_tr (kp_re [2039] fi) rfl hk1) rfl (kp_re [2039] s1.2)) (20, 0, 0) 36 rfl hvt) ?_
      refine pg_85_24 (fun _ => ?_) (fun hc => absurd (nx_le (a := w) (b := w) rfl rfl (by omega) (by omega)) hc)
      refine pg_85_79 ?_
      refine pg_85_80 rfl ?_
      refine pg_85_82 ?_
      refine go_top (y := nI (2 * (lq_it w (sp_85_18 i1 s1) 0))) (nx_mul (rfl : (2 : Int32) = nI 2) rfl) ?_
      refine pg_85_83 rfl ?_
      refine pg_85_84 (fun hc8 => ?_) (fun hc9 => ?_)
      · refine pg_85_99 (y := (nI (i1 + 1))) (lv' := [some (xm_r (20, 0, 0)), some (xm_i x), some (xm_i (bI s1.1)), some (xm_i (nI (i1 + 1))), some (xm_i (nI (lq_it w (sp_85_18 i1 s1) 0))), some (xm_i (nI w))]) rfl (nI_1 i1) rfl ?_
        refine pg_85_102 ?_
        exact K1 (s1.1, s1.2) (by unfold sp_85_4; try rw [if_pos hc8]; all_goals rfl) _ _
      · refine pg_85_87 ?_
        refine pg_85_88 (lv' := [some (xm_r (20, 0, 0)), some (xm_i x), some (xm_i (1 : Int32)), some (xm_i (nI i1)), some (xm_i (nI (lq_it w (sp_85_18 i1 s1) 0))), some (xm_i (nI w))]) rfl ?_
        refine pg_85_89 rfl ?_
        refine pg_85_90 rfl ?_
        refine pg_85_91 (sk20 hs) (sr20_38 hs) ?_
        refine pg_85_94 rfl ?_
        refine pg_85_95 (Or.inl (sk21_38 hs)) (i := i1) rfl (by omega) (by omega) ?_
        refine pg_85_96 (sk20 hs) ?_
        refine pg_85_99 (y := (nI (i1 + 1))) (lv' := [some (xm_r (20, 0, 0)), some (xm_i x), some (xm_i (1 : Int32)), some (xm_i (nI (i1 + 1))), some (xm_i (nI (lq_it w (sp_85_18 i1 s1) 0))), some (xm_i (nI w))]) rfl (nI_1 i1) rfl ?_
        refine pg_85_102 ?_
        exact K1 (true, (xm_up s1.2 (20, 0, 0) 39 (s1.2 (21, 38, 0) i1))) (by unfold sp_85_4; try rw [if_neg hc9]; all_goals rfl) _ _
  · intro hd1x10 u4 u5
    show xm_G E (d + 0) true 85 4 [some (xm_r (20, 0, 0)), some (xm_i x), some (xm_i (bI ((lq_it w (sp_85_4 x w) (false, fi)).1))), some (xm_i (nI w)), u4, u5] [] (c, ((lq_it w (sp_85_4 x w) (false, fi)).2), fl, r) R
    refine pg_85_4 rfl ?_
    refine pg_85_5 rfl ?_
    refine pg_85_6 (sk20 hs) ?_
    refine go_top (y := nI w) (kp_at (kp_tr (kp_re [2039] fi) rfl (kp_it (L := [2039]) (p := fun (s : Bool × FI) => s.2) (N := w) (F := sp_85_4 x w) (s0 := (false, fi)) (kp_re [2039] fi) (fun i s => kp_sp_85_4 x w i s))) (20, 0, 0) 36 rfl hvt) ?_
    refine pg_85_9 (fun _ => ?_) (fun hc => absurd (nx_le (a := w) (b := w) rfl rfl (by omega) (by omega)) hc)
    refine pg_85_105 rfl ?_
    exact go_eq (hR.symm.trans (by unfold sp_85; all_goals rfl)) (pg_85_106 (bI_01 _))
-- 71: Model.sendValues
def sp_71_f (i1 : Nat) (s1 : FI × FL) : Int64 := ((sp_72 s1.1 i1 (0 : Int32) (s1.1 (21, 8, 0) i1)).1)
def sp_71_26 (i1 : Nat) (s1 : FI × FL) (i2 : Nat) (s2 : FI × FL) : FI × FL := if (nI i2) = (nI i1) then ((s2.1, s2.2)) else (((sp_79 (xm_up (xm_up ((sp_75 s2.1 s2.2 i1 (nI i2) (sp_71_f i1 s1)).1) (21, 27, 0) ((6 * i2) + i1) (bI (sp_76 ((sp_75 s2.1 s2.2 i1 (nI i2) (sp_71_f i1 s1)).1) ((sp_75 s2.1 s2.2 i1 (nI i2) (sp_71_f i1 s1)).2) (nI i1) (0 : Int32)))) (21, 28, 0) ((6 * i2) + i1) (sp_78 ((sp_75 s2.1 s2.2 i1 (nI i2) (sp_71_f i1 s1)).2))) i2 (bI (sp_76 ((sp_75 s2.1 s2.2 i1 (nI i2) (sp_71_f i1 s1)).1) ((sp_75 s2.1 s2.2 i1 (nI i2) (sp_71_f i1 s1)).2) (nI i1) (0 : Int32)))), ((sp_75 s2.1 s2.2 i1 (nI i2) (sp_71_f i1 s1)).2)))
theorem kp_sp_71_26 (i1 : Nat) (s1 : FI × FL) (i2 : Nat) (s2 : FI × FL) : kp [2025, 2124, 2127, 2128] s2.1 ((sp_71_26 i1 s1 i2 s2).1) := by
  unfold sp_71_26
  rcases Classical.em ((nI i2) = (nI i1)) with hc | hc
  · (try rw [if_pos hc])
    exact (kp_re [2025, 2124, 2127, 2128] s2.1)
  · (try rw [if_neg hc])
    exact (kp_tr (kp_up (kp_up (kp_tr (kp_re [2025, 2124, 2127, 2128] s2.1) rfl (kp_sp_75 s2.1 s2.2 i1 (nI i2) (sp_71_f i1 s1))) rfl) rfl) rfl (kp_sp_79 (xm_up (xm_up ((sp_75 s2.1 s2.2 i1 (nI i2) (sp_71_f i1 s1)).1) (21, 27, 0) ((6 * i2) + i1) (bI (sp_76 ((sp_75 s2.1 s2.2 i1 (nI i2) (sp_71_f i1 s1)).1) ((sp_75 s2.1 s2.2 i1 (nI i2) (sp_71_f i1 s1)).2) (nI i1) (0 : Int32)))) (21, 28, 0) ((6 * i2) + i1) (sp_78 ((sp_75 s2.1 s2.2 i1 (nI i2) (sp_71_f i1 s1)).2))) i2 (bI (sp_76 ((sp_75 s2.1 s2.2 i1 (nI i2) (sp_71_f i1 s1)).1) ((sp_75 s2.1 s2.2 i1 (nI i2) (sp_71_f i1 s1)).2) (nI i1) (0 : Int32)))))
def sp_71_2 (n : Nat) (i1 : Nat) (s1 : FI × FL) : FI × FL := (((lq_it n (sp_71_26 i1 s1) (((sp_72 s1.1 i1 (0 : Int32) (s1.1 (21, 8, 0) i1)).2), s1.2)).1), ((lq_it n (sp_71_26 i1 s1) (((sp_72 s1.1 i1 (0 : Int32) (s1.1 (21, 8, 0) i1)).2), s1.2)).2))
theorem kp_sp_71_2 (n : Nat) (i1 : Nat) (s1 : FI × FL) : kp [2023, 2025, 2124, 2127, 2128] s1.1 ((sp_71_2 n i1 s1).1) := by
  unfold sp_71_2
  exact (kp_tr (kp_tr (kp_re [2023, 2025, 2124, 2127, 2128] s1.1) rfl (kp_sp_72 s1.1 i1 (0 : Int32) (s1.1 (21, 8, 0) i1))) rfl (kp_it (L := [2025, 2124, 2127, 2128]) (p := fun (s : FI × FL) => s.1) (N := n) (F := sp_71_26 i1 s1) (s0 := (((sp_72 s1.1 i1 (0 : Int32) (s1.1 (21, 8, 0) i1)).2), s1.2)) (kp_re [2025, 2124, 2127, 2128] ((sp_72 s1.1 i1 (0 : Int32) (s1.1 (21, 8, 0) i1)).2)) (fun i s => kp_sp_71_26 i1 s1 i s)))
def sp_71 (n : Nat) (fi : FI) (fl : FL) : FI × FL := (((lq_it n (sp_71_2 n) (fi, fl)).1), ((lq_it n (sp_71_2 n) (fi, fl)).2))
theorem kp_sp_71 (n : Nat) (fi : FI) (fl : FL) : kp [2023, 2025, 2124, 2127, 2128] fi ((sp_71 n fi fl).1) := by
  unfold sp_71
  exact (kp_tr (kp_re [2023, 2025, 2124, 2127, 2128] fi) rfl (kp_it (L := [2023, 2025, 2124, 2127, 2128]) (p := fun (s : FI × FL) => s.1) (N := n) (F := sp_71_2 n) (s0 := (fi, fl)) (kp_re [2023, 2025, 2124, 2127, 2128] fi) (fun i s => kp_sp_71_2 n i s)))
set_option maxRecDepth 4000 in
theorem ct_71 {n : Nat} {E : xm_E} {c : Nat × Nat} {fi : FI} {fl : FL} {r : xm_I → Nat → Option xm_I} {d : Nat} (hs : sh n E c r) (hf : fz n fi) : xm_C E (d + 4) true 71 [xm_r (20, 0, 0)] (c, fi, fl, r) (.inl (none), (c, (sp_71 n fi fl).1, (sp_71 n fi fl).2, r)) := by
  have hn := sh_n hs
  suffices key : ∀ R : xm_O, ((.inl (none), (c, (sp_71 n fi fl).1, (sp_71 n fi fl).2, r)) : xm_O) = R → xm_G E (d + 3) true 71 0 [some (xm_r (20, 0, 0)), none, none, none, none] [] (c, fi, fl, r) R from go_inr (by decide) (Nat.le_of_ble_eq_true rfl) (key _ rfl)
  intro R hR
  refine pg_71_0 ?_
  refine pg_71_1 (lv' := [some (xm_r (20, 0, 0)), some (xm_i (0 : Int32)), none, none, none]) rfl ?_
  refine (lq_li (N := n) (f := sp_71_2 n) (s0 := (fi, fl)) (P := fun i1 s1 => ∀ u2 : Option xm_V, ∀ u4 : Option xm_V, xm_G E (d + 3) true 71 2 [some (xm_r (20, 0, 0)), some (xm_i (nI i1)), u2, none, u4] [] (c, s1.1, s1.2, r) R) (I := fun i1 s1 => kp [2023, 2025, 2124, 2127, 2128] fi s1.1) (kp_re [2023, 2025, 2124, 2127, 2128] _) (fun i1 s1 hi1 hk1 => kp_tr hk1 rfl (kp_sp_71_2 n i1 s1)) ?_ ?_) _ _
  · intro i1 s1 hi1 hk1 K1 u2 u4
    show xm_G E (d + 3) true 71 2 [some (xm_r (20, 0, 0)), some (xm_i (nI i1)), u2, none, u4] [] (c, s1.1, s1.2, r) R
    refine pg_71_2 rfl ?_
    refine pg_71_3 rfl ?_
    refine pg_71_4 (sk20 hs) ?_
    refine go_top (y := nI n) (fz_kp hf (kp_tr (kp_tr (kp_re [2023, 2025, 2124, 2127, 2128] fi) rfl hk1) rfl (kp_re [2023, 2025, 2124, 2127, 2128] s1.1)) rfl rfl rfl).2 ?_
    refine pg_71_7 (fun hc => absurd hc (nx_nle (a := i1) (b := n) rfl rfl (by omega) (by omega))) (fun _ => ?_)
    refine pg_71_10 rfl ?_
    refine pg_71_11 rfl ?_
    refine pg_71_12 ?_
    refine pg_71_13 rfl ?_
    refine pg_71_14 (sk20 hs) (sr20_8 hs) ?_
    refine pg_71_17 rfl ?_
    refine pg_71_18 (Or.inl (sk21_8 hs)) (i := i1) rfl (by omega) (by omega) ?_
    refine pg_71_19 (sk20 hs) (Nat.le_of_ble_eq_true rfl) (ct_72 (p := i1) (q := (0 : Int32)) (x := (s1.1 (21, 8, 0) i1)) hs (by omega)) ?_
    refine pg_71_22 (lv' := [some (xm_r (20, 0, 0)), some (xm_i (nI i1)), some (xm_l (sp_71_f i1 s1)), none, u4]) rfl ?_
    refine pg_71_23 ?_
    refine pg_71_24 (lv' := [some (xm_r (20, 0, 0)), some (xm_i (nI i1)), some (xm_l (sp_71_f i1 s1)), none, some (xm_i (0 : Int32))]) rfl ?_
    refine (lq_li (N := n) (f := sp_71_26 i1 s1) (s0 := (((sp_72 s1.1 i1 (0 : Int32) (s1.1 (21, 8, 0) i1)).2), s1.2)) (P := fun i2 s2 => xm_G E (d + 3) true 71 26 [some (xm_r (20, 0, 0)), some (xm_i (nI i1)), some (xm_l (sp_71_f i1 s1)), none, some (xm_i (nI i2))] [] (c, s2.1, s2.2, r) R) (I := fun i2 s2 => kp [2025, 2124, 2127, 2128] ((sp_72 s1.1 i1 (0 : Int32) (s1.1 (21, 8, 0) i1)).2) s2.1) (kp_re [2025, 2124, 2127, 2128] _) (fun i2 s2 hi2 hk2 => kp_tr hk2 rfl (kp_sp_71_26 i1 s1 i2 s2)) ?_ ?_)
    · intro i2 s2 hi2 hk2 K2
      show xm_G E (d + 3) true 71 26 [some (xm_r (20, 0, 0)), some (xm_i (nI i1)), some (xm_l (sp_71_f i1 s1)), none, some (xm_i (nI i2))] [] (c, s2.1, s2.2, r) R
      refine pg_71_26 rfl ?_
      refine pg_71_28 rfl ?_
      refine pg_71_29 (sk20 hs) ?_
      refine go_top (y := nI n) (fz_kp hf (kp_tr (kp_tr (kp_re [2023, 2025, 2124, 2127, 2128] fi) rfl hk1) rfl (kp_tr (kp_tr (kp_tr (kp_re [2023, 2025, 2124, 2127, 2128] s1.1) rfl (kp_sp_72 s1.1 i1 (0 : Int32) (s1.1 (21, 8, 0) i1))) rfl hk2) rfl (kp_re [2025, 2124, 2127, 2128] s2.1))) rfl rfl rfl).2 ?_
      refine pg_71_32 (fun hc => absurd hc (nx_nle (a := i2) (b := n) rfl rfl (by omega) (by omega))) (fun _ => ?_)
      refine pg_71_35 rfl ?_
      refine pg_71_37 rfl ?_
      refine pg_71_38 (fun hc1 => ?_) (fun hc2 => ?_)
      · refine pg_71_101 (y := (nI (i2 + 1))) (lv' := [some (xm_r (20, 0, 0)), some (xm_i (nI i1)), some (xm_l (sp_71_f i1 s1)), none, some (xm_i (nI (i2 + 1)))]) rfl (nI_1 i2) rfl ?_
        refine pg_71_104 ?_
        exact K2 (s2.1, s2.2) (by unfold sp_71_26; try rw [if_pos hc1]; all_goals rfl)
      · refine pg_71_41 rfl ?_
        refine pg_71_42 rfl ?_
        refine pg_71_43 rfl ?_
        refine pg_71_45 rfl ?_
        refine pg_71_46 (sk20 hs) (Nat.le_of_ble_eq_true rfl) (ct_75 (p := i1) (y := (nI i2)) (f := (sp_71_f i1 s1)) hs (by omega)) ?_
        refine pg_71_49 rfl ?_
        refine pg_71_50 (sk20 hs) (sr20_27 hs) ?_
        refine pg_71_53 ?_
        refine pg_71_55 rfl ?_
        refine pg_71_57 ?_
        refine go_top (y := nI (6 * i2)) (nx_mul (rfl : (6 : Int32) = nI 6) rfl) ?_
        refine pg_71_58 rfl ?_
        refine pg_71_59 ?_
        refine go_top (y := nI ((6 * i2) + i1)) (nx_add rfl rfl) ?_
        refine pg_71_60 rfl ?_
        refine pg_71_61 rfl ?_
        refine pg_71_62 ?_
        refine pg_71_63 (sk20 hs) (Nat.le_of_ble_eq_true rfl) (ct_76 (x := (nI i1)) (q := (0 : Int32)) hs) ?_
        refine pg_71_66 (sk21_27 hs) (i := ((6 * i2) + i1)) rfl (by omega) (by omega) (bI_01 _) ?_
        refine pg_71_67 rfl ?_
        refine pg_71_68 (sk20 hs) (sr20_28 hs) ?_
        refine pg_71_71 ?_
        refine pg_71_73 rfl ?_
        refine pg_71_75 ?_
        refine go_top (y := nI (6 * i2)) (nx_mul (rfl : (6 : Int32) = nI 6) rfl) ?_
        refine pg_71_76 rfl ?_
        refine pg_71_77 ?_
        refine go_top (y := nI ((6 * i2) + i1)) (nx_add rfl rfl) ?_
        refine pg_71_78 rfl ?_
        refine pg_71_79 (sk20 hs) (Nat.le_of_ble_eq_true rfl) (ct_78  hs) ?_
        refine pg_71_82 (sk21_28 hs) (i := ((6 * i2) + i1)) rfl (by omega) (by omega) ?_
        refine pg_71_83 rfl ?_
        refine pg_71_84 rfl ?_
        refine pg_71_86 rfl ?_
        refine pg_71_87 (sk20 hs) (sr20_27 hs) ?_
        refine pg_71_90 ?_
        refine pg_71_92 rfl ?_
        refine pg_71_94 ?_
        refine go_top (y := nI (6 * i2)) (nx_mul (rfl : (6 : Int32) = nI 6) rfl) ?_
        refine pg_71_95 rfl ?_
        refine pg_71_96 ?_
        refine go_top (y := nI ((6 * i2) + i1)) (nx_add rfl rfl) ?_
        refine pg_71_97 (sk21_27 hs) (i := ((6 * i2) + i1)) rfl (by omega) (by omega) ?_
        refine go_top (y := (bI (sp_76 ((sp_75 s2.1 s2.2 i1 (nI i2) (sp_71_f i1 s1)).1) ((sp_75 s2.1 s2.2 i1 (nI i2) (sp_71_f i1 s1)).2) (nI i1) (0 : Int32)))) (by simp [xm_up]) ?_
        refine pg_71_98 (sk20 hs) (Nat.le_of_ble_eq_true rfl) (ct_79 (p := i2) (g := (bI (sp_76 ((sp_75 s2.1 s2.2 i1 (nI i2) (sp_71_f i1 s1)).1) ((sp_75 s2.1 s2.2 i1 (nI i2) (sp_71_f i1 s1)).2) (nI i1) (0 : Int32)))) hs (by omega)) ?_
        refine pg_71_101 (y := (nI (i2 + 1))) (lv' := [some (xm_r (20, 0, 0)), some (xm_i (nI i1)), some (xm_l (sp_71_f i1 s1)), none, some (xm_i (nI (i2 + 1)))]) rfl (nI_1 i2) rfl ?_
        refine pg_71_104 ?_
        exact K2 ((sp_79 (xm_up (xm_up ((sp_75 s2.1 s2.2 i1 (nI i2) (sp_71_f i1 s1)).1) (21, 27, 0) ((6 * i2) + i1) (bI (sp_76 ((sp_75 s2.1 s2.2 i1 (nI i2) (sp_71_f i1 s1)).1) ((sp_75 s2.1 s2.2 i1 (nI i2) (sp_71_f i1 s1)).2) (nI i1) (0 : Int32)))) (21, 28, 0) ((6 * i2) + i1) (sp_78 ((sp_75 s2.1 s2.2 i1 (nI i2) (sp_71_f i1 s1)).2))) i2 (bI (sp_76 ((sp_75 s2.1 s2.2 i1 (nI i2) (sp_71_f i1 s1)).1) ((sp_75 s2.1 s2.2 i1 (nI i2) (sp_71_f i1 s1)).2) (nI i1) (0 : Int32)))), ((sp_75 s2.1 s2.2 i1 (nI i2) (sp_71_f i1 s1)).2)) (by unfold sp_71_26; try rw [if_neg hc2]; all_goals rfl)
    · intro hd2x3
      show xm_G E (d + 3) true 71 26 [some (xm_r (20, 0, 0)), some (xm_i (nI i1)), some (xm_l (sp_71_f i1 s1)), none, some (xm_i (nI n))] [] (c, ((lq_it n (sp_71_26 i1 s1) (((sp_72 s1.1 i1 (0 : Int32) (s1.1 (21, 8, 0) i1)).2), s1.2)).1), ((lq_it n (sp_71_26 i1 s1) (((sp_72 s1.1 i1 (0 : Int32) (s1.1 (21, 8, 0) i1)).2), s1.2)).2), r) R
      refine pg_71_26 rfl ?_
      refine pg_71_28 rfl ?_
      refine pg_71_29 (sk20 hs) ?_
      refine go_top (y := nI n) (fz_kp hf (kp_tr (kp_tr (kp_re [2023, 2025, 2124, 2127, 2128] fi) rfl hk1) rfl (kp_tr (kp_tr (kp_re [2023, 2025, 2124, 2127, 2128] s1.1) rfl (kp_sp_72 s1.1 i1 (0 : Int32) (s1.1 (21, 8, 0) i1))) rfl (kp_it (L := [2025, 2124, 2127, 2128]) (p := fun (s : FI × FL) => s.1) (N := n) (F := sp_71_26 i1 s1) (s0 := (((sp_72 s1.1 i1 (0 : Int32) (s1.1 (21, 8, 0) i1)).2), s1.2)) (kp_re [2025, 2124, 2127, 2128] ((sp_72 s1.1 i1 (0 : Int32) (s1.1 (21, 8, 0) i1)).2)) (fun i s => kp_sp_71_26 i1 s1 i s)))) rfl rfl rfl).2 ?_
      refine pg_71_32 (fun _ => ?_) (fun hc => absurd (nx_le (a := n) (b := n) rfl rfl (by omega) (by omega)) hc)
      refine pg_71_107 (y := (nI (i1 + 1))) (lv' := [some (xm_r (20, 0, 0)), some (xm_i (nI (i1 + 1))), some (xm_l (sp_71_f i1 s1)), none, some (xm_i (nI n))]) rfl (nI_1 i1) rfl ?_
      refine pg_71_110 ?_
      exact K1 (((lq_it n (sp_71_26 i1 s1) (((sp_72 s1.1 i1 (0 : Int32) (s1.1 (21, 8, 0) i1)).2), s1.2)).1), ((lq_it n (sp_71_26 i1 s1) (((sp_72 s1.1 i1 (0 : Int32) (s1.1 (21, 8, 0) i1)).2), s1.2)).2)) (by unfold sp_71_2; all_goals rfl) _ _
  · intro hd1x4 u2 u4
    show xm_G E (d + 3) true 71 2 [some (xm_r (20, 0, 0)), some (xm_i (nI n)), u2, none, u4] [] (c, ((lq_it n (sp_71_2 n) (fi, fl)).1), ((lq_it n (sp_71_2 n) (fi, fl)).2), r) R
    refine pg_71_2 rfl ?_
    refine pg_71_3 rfl ?_
    refine pg_71_4 (sk20 hs) ?_
    refine go_top (y := nI n) (fz_kp hf (kp_tr (kp_re [2023, 2025, 2124, 2127, 2128] fi) rfl (kp_it (L := [2023, 2025, 2124, 2127, 2128]) (p := fun (s : FI × FL) => s.1) (N := n) (F := sp_71_2 n) (s0 := (fi, fl)) (kp_re [2023, 2025, 2124, 2127, 2128] fi) (fun i s => kp_sp_71_2 n i s))) rfl rfl rfl).2 ?_
    refine pg_71_7 (fun _ => ?_) (fun hc => absurd (nx_le (a := n) (b := n) rfl rfl (by omega) (by omega)) hc)
    exact go_eq (hR.symm.trans (by unfold sp_71; all_goals rfl)) (pg_71_113)
-- 81: Model.relay
def sp_81_f (fi : FI) (p : Nat) (o : Nat) : Int64 := (if (fi (21, 27, 0) ((6 * p) + o)) = 0 then ((sp_72 fi p (1 : Int32) (nI o)).1) else ((sp_72 fi p (nI (8 + o)) (fi (21, 28, 0) ((6 * p) + o))).1))
def sp_81_51 (fi : FI) (p : Nat) (o : Nat) (i1 : Nat) (s1 : FI × FL) : FI × FL := if (nI i1) = (nI p) then ((s1.1, s1.2)) else (((sp_79 (xm_up (xm_up ((sp_75 s1.1 s1.2 p (nI i1) (sp_81_f fi p o)).1) (21, 29, 0) (((36 * i1) + (6 * p)) + o) (bI (sp_76 ((sp_75 s1.1 s1.2 p (nI i1) (sp_81_f fi p o)).1) ((sp_75 s1.1 s1.2 p (nI i1) (sp_81_f fi p o)).2) (nI p) (nI (8 + o))))) (21, 30, 0) (((36 * i1) + (6 * p)) + o) (sp_78 ((sp_75 s1.1 s1.2 p (nI i1) (sp_81_f fi p o)).2))) i1 (bI (if (bI (sp_76 ((sp_75 s1.1 s1.2 p (nI i1) (sp_81_f fi p o)).1) ((sp_75 s1.1 s1.2 p (nI i1) (sp_81_f fi p o)).2) (nI p) (nI (8 + o)))) = 0 then (if (bI (sp_76 (xm_up (xm_up ((sp_75 s1.1 s1.2 p (nI i1) (sp_81_f fi p o)).1) (21, 29, 0) (((36 * i1) + (6 * p)) + o) (bI (sp_76 ((sp_75 s1.1 s1.2 p (nI i1) (sp_81_f fi p o)).1) ((sp_75 s1.1 s1.2 p (nI i1) (sp_81_f fi p o)).2) (nI p) (nI (8 + o))))) (21, 30, 0) (((36 * i1) + (6 * p)) + o) (sp_78 ((sp_75 s1.1 s1.2 p (nI i1) (sp_81_f fi p o)).2))) ((sp_75 s1.1 s1.2 p (nI i1) (sp_81_f fi p o)).2) (nI p) (1 : Int32))) = 0 then false else (if (sp_78 ((sp_75 s1.1 s1.2 p (nI i1) (sp_81_f fi p o)).2)) = (nI o) then true else false)) else true))), ((sp_75 s1.1 s1.2 p (nI i1) (sp_81_f fi p o)).2)))
theorem kp_sp_81_51 (fi : FI) (p : Nat) (o : Nat) (i1 : Nat) (s1 : FI × FL) : kp [2025, 2124, 2129, 2130] s1.1 ((sp_81_51 fi p o i1 s1).1) := by
  unfold sp_81_51
  rcases Classical.em ((nI i1) = (nI p)) with hc | hc
  · (try rw [if_pos hc])
    exact (kp_re [2025, 2124, 2129, 2130] s1.1)
  · (try rw [if_neg hc])
    exact (kp_tr (kp_up (kp_up (kp_tr (kp_re [2025, 2124, 2129, 2130] s1.1) rfl (kp_sp_75 s1.1 s1.2 p (nI i1) (sp_81_f fi p o))) rfl) rfl) rfl (kp_sp_79 (xm_up (xm_up ((sp_75 s1.1 s1.2 p (nI i1) (sp_81_f fi p o)).1) (21, 29, 0) (((36 * i1) + (6 * p)) + o) (bI (sp_76 ((sp_75 s1.1 s1.2 p (nI i1) (sp_81_f fi p o)).1) ((sp_75 s1.1 s1.2 p (nI i1) (sp_81_f fi p o)).2) (nI p) (nI (8 + o))))) (21, 30, 0) (((36 * i1) + (6 * p)) + o) (sp_78 ((sp_75 s1.1 s1.2 p (nI i1) (sp_81_f fi p o)).2))) i1 (bI (if (bI (sp_76 ((sp_75 s1.1 s1.2 p (nI i1) (sp_81_f fi p o)).1) ((sp_75 s1.1 s1.2 p (nI i1) (sp_81_f fi p o)).2) (nI p) (nI (8 + o)))) = 0 then (if (bI (sp_76 (xm_up (xm_up ((sp_75 s1.1 s1.2 p (nI i1) (sp_81_f fi p o)).1) (21, 29, 0) (((36 * i1) + (6 * p)) + o) (bI (sp_76 ((sp_75 s1.1 s1.2 p (nI i1) (sp_81_f fi p o)).1) ((sp_75 s1.1 s1.2 p (nI i1) (sp_81_f fi p o)).2) (nI p) (nI (8 + o))))) (21, 30, 0) (((36 * i1) + (6 * p)) + o) (sp_78 ((sp_75 s1.1 s1.2 p (nI i1) (sp_81_f fi p o)).2))) ((sp_75 s1.1 s1.2 p (nI i1) (sp_81_f fi p o)).2) (nI p) (1 : Int32))) = 0 then false else (if (sp_78 ((sp_75 s1.1 s1.2 p (nI i1) (sp_81_f fi p o)).2)) = (nI o) then true else false)) else true))))
def sp_81 (n : Nat) (fi : FI) (fl : FL) (p : Nat) (o : Nat) : FI × FL := (((lq_it n (sp_81_51 fi p o) ((if (fi (21, 27, 0) ((6 * p) + o)) = 0 then ((sp_72 fi p (1 : Int32) (nI o)).2) else ((sp_72 fi p (nI (8 + o)) (fi (21, 28, 0) ((6 * p) + o))).2)), fl)).1), ((lq_it n (sp_81_51 fi p o) ((if (fi (21, 27, 0) ((6 * p) + o)) = 0 then ((sp_72 fi p (1 : Int32) (nI o)).2) else ((sp_72 fi p (nI (8 + o)) (fi (21, 28, 0) ((6 * p) + o))).2)), fl)).2))
theorem kp_sp_81 (n : Nat) (fi : FI) (fl : FL) (p : Nat) (o : Nat) : kp [2023, 2025, 2124, 2129, 2130] fi ((sp_81 n fi fl p o).1) := by
  unfold sp_81
  exact (kp_tr (kp_if (kp_tr (kp_re [2023, 2025, 2124, 2129, 2130] fi) rfl (kp_sp_72 fi p (1 : Int32) (nI o))) (kp_tr (kp_re [2023, 2025, 2124, 2129, 2130] fi) rfl (kp_sp_72 fi p (nI (8 + o)) (fi (21, 28, 0) ((6 * p) + o))))) rfl (kp_it (L := [2025, 2124, 2129, 2130]) (p := fun (s : FI × FL) => s.1) (N := n) (F := sp_81_51 fi p o) (s0 := ((if (fi (21, 27, 0) ((6 * p) + o)) = 0 then ((sp_72 fi p (1 : Int32) (nI o)).2) else ((sp_72 fi p (nI (8 + o)) (fi (21, 28, 0) ((6 * p) + o))).2)), fl)) (kp_re [2025, 2124, 2129, 2130] (if (fi (21, 27, 0) ((6 * p) + o)) = 0 then ((sp_72 fi p (1 : Int32) (nI o)).2) else ((sp_72 fi p (nI (8 + o)) (fi (21, 28, 0) ((6 * p) + o))).2))) (fun i s => kp_sp_81_51 fi p o i s)))
set_option maxRecDepth 4000 in
theorem ct_81 {n : Nat} {E : xm_E} {c : Nat × Nat} {fi : FI} {fl : FL} {r : xm_I → Nat → Option xm_I} {d : Nat} {p : Nat} {o : Nat} (hs : sh n E c r) (hp : p < n) (ho : o < n) (hf : fz n fi) : xm_C E (d + 4) true 81 [xm_r (20, 0, 0), xm_i (nI p), xm_i (nI o)] (c, fi, fl, r) (.inl (none), (c, (sp_81 n fi fl p o).1, (sp_81 n fi fl p o).2, r)) := by
  have hn := sh_n hs
  suffices key : ∀ R : xm_O, ((.inl (none), (c, (sp_81 n fi fl p o).1, (sp_81 n fi fl p o).2, r)) : xm_O) = R → xm_G E (d + 3) true 81 0 [some (xm_r (20, 0, 0)), some (xm_i (nI p)), some (xm_i (nI o)), none, none, none, none, none] [] (c, fi, fl, r) R from go_inr (by decide) (Nat.le_of_ble_eq_true rfl) (key _ rfl)
  intro R hR
  refine pg_81_0 rfl ?_
  refine pg_81_1 (sk20 hs) (sr20_27 hs) ?_
  refine pg_81_4 ?_
  refine pg_81_6 rfl ?_
  refine pg_81_7 ?_
  refine go_top (y := nI (6 * p)) (nx_mul (rfl : (6 : Int32) = nI 6) rfl) ?_
  refine pg_81_8 rfl ?_
  refine pg_81_9 ?_
  refine go_top (y := nI ((6 * p) + o)) (nx_add rfl rfl) ?_
  refine pg_81_10 (sk21_27 hs) (i := ((6 * p) + o)) rfl (by omega) (by omega) ?_
  refine pg_81_11 (lv' := [some (xm_r (20, 0, 0)), some (xm_i (nI p)), some (xm_i (nI o)), some (xm_i (fi (21, 27, 0) ((6 * p) + o))), none, none, none, none]) rfl ?_
  suffices KJ : xm_G E (d + 3) true 81 46 [some (xm_r (20, 0, 0)), some (xm_i (nI p)), some (xm_i (nI o)), some (xm_i (fi (21, 27, 0) ((6 * p) + o))), none, none, none, none] [xm_l (if (fi (21, 27, 0) ((6 * p) + o)) = 0 then ((sp_72 fi p (1 : Int32) (nI o)).1) else ((sp_72 fi p (nI (8 + o)) (fi (21, 28, 0) ((6 * p) + o))).1))] (c, (if (fi (21, 27, 0) ((6 * p) + o)) = 0 then ((sp_72 fi p (1 : Int32) (nI o)).2) else ((sp_72 fi p (nI (8 + o)) (fi (21, 28, 0) ((6 * p) + o))).2)), fl, r) R by
    refine pg_81_12 rfl ?_
    refine pg_81_13 (fun hc1 => ?_) (fun hc2 => ?_)
    · refine pg_81_39 rfl ?_
      refine pg_81_40 rfl ?_
      refine pg_81_41 ?_
      refine pg_81_42 rfl ?_
      refine pg_81_43 (sk20 hs) (Nat.le_of_ble_eq_true rfl) (ct_72 (p := p) (q := (1 : Int32)) (x := (nI o)) hs (by omega)) ?_
      repeat rw [if_pos hc1] at KJ
      repeat rw [if_pos hc1]
      exact KJ
    · refine pg_81_16 rfl ?_
      refine pg_81_17 rfl ?_
      refine pg_81_18 ?_
      refine pg_81_20 rfl ?_
      refine pg_81_21 ?_
      refine go_top (y := nI (8 + o)) (nx_add (rfl : (8 : Int32) = nI 8) rfl) ?_
      refine pg_81_22 rfl ?_
      refine pg_81_23 (sk20 hs) (sr20_28 hs) ?_
      refine pg_81_26 ?_
      refine pg_81_28 rfl ?_
      refine pg_81_29 ?_
      refine go_top (y := nI (6 * p)) (nx_mul (rfl : (6 : Int32) = nI 6) rfl) ?_
      refine pg_81_30 rfl ?_
      refine pg_81_31 ?_
      refine go_top (y := nI ((6 * p) + o)) (nx_add rfl rfl) ?_
      refine pg_81_32 (Or.inl (sk21_28 hs)) (i := ((6 * p) + o)) rfl (by omega) (by omega) ?_
      refine pg_81_33 (sk20 hs) (Nat.le_of_ble_eq_true rfl) (ct_72 (p := p) (q := (nI (8 + o))) (x := (fi (21, 28, 0) ((6 * p) + o))) hs (by omega)) ?_
      refine pg_81_36 ?_
      repeat rw [if_neg hc2] at KJ
      repeat rw [if_neg hc2]
      exact KJ
  refine pg_81_46 (lv' := [some (xm_r (20, 0, 0)), some (xm_i (nI p)), some (xm_i (nI o)), some (xm_i (fi (21, 27, 0) ((6 * p) + o))), some (xm_l (sp_81_f fi p o)), none, none, none]) rfl ?_
  refine pg_81_48 ?_
  refine pg_81_49 (lv' := [some (xm_r (20, 0, 0)), some (xm_i (nI p)), some (xm_i (nI o)), some (xm_i (fi (21, 27, 0) ((6 * p) + o))), some (xm_l (sp_81_f fi p o)), none, some (xm_i (0 : Int32)), none]) rfl ?_
  refine (lq_li (N := n) (f := sp_81_51 fi p o) (s0 := ((if (fi (21, 27, 0) ((6 * p) + o)) = 0 then ((sp_72 fi p (1 : Int32) (nI o)).2) else ((sp_72 fi p (nI (8 + o)) (fi (21, 28, 0) ((6 * p) + o))).2)), fl)) (P := fun i1 s1 => ∀ u7 : Option xm_V, xm_G E (d + 3) true 81 51 [some (xm_r (20, 0, 0)), some (xm_i (nI p)), some (xm_i (nI o)), some (xm_i (fi (21, 27, 0) ((6 * p) + o))), some (xm_l (sp_81_f fi p o)), none, some (xm_i (nI i1)), u7] [] (c, s1.1, s1.2, r) R) (I := fun i1 s1 => kp [2025, 2124, 2129, 2130] (if (fi (21, 27, 0) ((6 * p) + o)) = 0 then ((sp_72 fi p (1 : Int32) (nI o)).2) else ((sp_72 fi p (nI (8 + o)) (fi (21, 28, 0) ((6 * p) + o))).2)) s1.1) (kp_re [2025, 2124, 2129, 2130] _) (fun i1 s1 hi1 hk1 => kp_tr hk1 rfl (kp_sp_81_51 fi p o i1 s1)) ?_ ?_) _
  · intro i1 s1 hi1 hk1 K1 u7
    show xm_G E (d + 3) true 81 51 [some (xm_r (20, 0, 0)), some (xm_i (nI p)), some (xm_i (nI o)), some (xm_i (fi (21, 27, 0) ((6 * p) + o))), some (xm_l (sp_81_f fi p o)), none, some (xm_i (nI i1)), u7] [] (c, s1.1, s1.2, r) R
    refine pg_81_51 rfl ?_
    refine pg_81_53 rfl ?_
    refine pg_81_54 (sk20 hs) ?_
    refine go_top (y := nI n) (fz_kp hf (kp_tr (kp_tr (kp_if (kp_tr (kp_re [2023, 2025, 2124, 2129, 2130] fi) rfl (kp_sp_72 fi p (1 : Int32) (nI o))) (kp_tr (kp_re [2023, 2025, 2124, 2129, 2130] fi) rfl (kp_sp_72 fi p (nI (8 + o)) (fi (21, 28, 0) ((6 * p) + o))))) rfl hk1) rfl (kp_re [2025, 2124, 2129, 2130] s1.1)) rfl rfl rfl).2 ?_
    refine pg_81_57 (fun hc => absurd hc (nx_nle (a := i1) (b := n) rfl rfl (by omega) (by omega))) (fun _ => ?_)
    refine pg_81_60 rfl ?_
    refine pg_81_62 rfl ?_
    refine pg_81_63 (fun hc3 => ?_) (fun hc4 => ?_)
    · refine pg_81_154 (y := (nI (i1 + 1))) (lv' := [some (xm_r (20, 0, 0)), some (xm_i (nI p)), some (xm_i (nI o)), some (xm_i (fi (21, 27, 0) ((6 * p) + o))), some (xm_l (sp_81_f fi p o)), none, some (xm_i (nI (i1 + 1))), u7]) rfl (nI_1 i1) rfl ?_
      refine pg_81_157 ?_
      exact K1 (s1.1, s1.2) (by unfold sp_81_51; try rw [if_pos hc3]; all_goals rfl) _
    · refine pg_81_66 rfl ?_
      refine pg_81_67 rfl ?_
      refine pg_81_68 rfl ?_
      refine pg_81_70 rfl ?_
      refine pg_81_72 (sk20 hs) (Nat.le_of_ble_eq_true rfl) (ct_75 (p := p) (y := (nI i1)) (f := (sp_81_f fi p o)) hs (by omega)) ?_
      refine pg_81_75 ?_
      refine pg_81_77 rfl ?_
      refine pg_81_79 ?_
      refine go_top (y := nI (36 * i1)) (nx_mul (rfl : (36 : Int32) = nI 36) rfl) ?_
      refine pg_81_80 ?_
      refine pg_81_82 rfl ?_
      refine pg_81_83 ?_
      refine go_top (y := nI (6 * p)) (nx_mul (rfl : (6 : Int32) = nI 6) rfl) ?_
      refine pg_81_84 ?_
      refine go_top (y := nI ((36 * i1) + (6 * p))) (nx_add rfl rfl) ?_
      refine pg_81_85 rfl ?_
      refine pg_81_86 ?_
      refine go_top (y := nI (((36 * i1) + (6 * p)) + o)) (nx_add rfl rfl) ?_
      refine pg_81_87 (lv' := [some (xm_r (20, 0, 0)), some (xm_i (nI p)), some (xm_i (nI o)), some (xm_i (fi (21, 27, 0) ((6 * p) + o))), some (xm_l (sp_81_f fi p o)), none, some (xm_i (nI i1)), some (xm_i (nI (((36 * i1) + (6 * p)) + o)))]) rfl ?_
      refine pg_81_89 rfl ?_
      refine pg_81_90 (sk20 hs) (sr20_29 hs) ?_
      refine pg_81_93 rfl ?_
      refine pg_81_95 rfl ?_
      refine pg_81_96 rfl ?_
      refine pg_81_97 ?_
      refine pg_81_99 rfl ?_
      refine pg_81_100 ?_
      refine go_top (y := nI (8 + o)) (nx_add (rfl : (8 : Int32) = nI 8) rfl) ?_
      refine pg_81_101 (sk20 hs) (Nat.le_of_ble_eq_true rfl) (ct_76 (x := (nI p)) (q := (nI (8 + o))) hs) ?_
      refine pg_81_104 (sk21_29 hs) (i := (((36 * i1) + (6 * p)) + o)) rfl (by omega) (by omega) (bI_01 _) ?_
      refine pg_81_105 rfl ?_
      refine pg_81_106 (sk20 hs) (sr20_30 hs) ?_
      refine pg_81_109 rfl ?_
      refine pg_81_111 rfl ?_
      refine pg_81_112 (sk20 hs) (Nat.le_of_ble_eq_true rfl) (ct_78  hs) ?_
      refine pg_81_115 (sk21_30 hs) (i := (((36 * i1) + (6 * p)) + o)) rfl (by omega) (by omega) ?_
      refine pg_81_116 rfl ?_
      refine pg_81_117 rfl ?_
      refine pg_81_119 rfl ?_
      refine pg_81_120 (sk20 hs) (sr20_29 hs) ?_
      refine pg_81_123 rfl ?_
      refine pg_81_125 (sk21_29 hs) (i := (((36 * i1) + (6 * p)) + o)) rfl (by omega) (by omega) ?_
      refine go_top (y := (bI (sp_76 ((sp_75 s1.1 s1.2 p (nI i1) (sp_81_f fi p o)).1) ((sp_75 s1.1 s1.2 p (nI i1) (sp_81_f fi p o)).2) (nI p) (nI (8 + o))))) (by simp [xm_up]) ?_
      suffices KJ : xm_G E (d + 3) true 81 151 [some (xm_r (20, 0, 0)), some (xm_i (nI p)), some (xm_i (nI o)), some (xm_i (fi (21, 27, 0) ((6 * p) + o))), some (xm_l (sp_81_f fi p o)), none, some (xm_i (nI i1)), some (xm_i (nI (((36 * i1) + (6 * p)) + o)))] [xm_i (bI (if (bI (sp_76 ((sp_75 s1.1 s1.2 p (nI i1) (sp_81_f fi p o)).1) ((sp_75 s1.1 s1.2 p (nI i1) (sp_81_f fi p o)).2) (nI p) (nI (8 + o)))) = 0 then (if (bI (sp_76 (xm_up (xm_up ((sp_75 s1.1 s1.2 p (nI i1) (sp_81_f fi p o)).1) (21, 29, 0) (((36 * i1) + (6 * p)) + o) (bI (sp_76 ((sp_75 s1.1 s1.2 p (nI i1) (sp_81_f fi p o)).1) ((sp_75 s1.1 s1.2 p (nI i1) (sp_81_f fi p o)).2) (nI p) (nI (8 + o))))) (21, 30, 0) (((36 * i1) + (6 * p)) + o) (sp_78 ((sp_75 s1.1 s1.2 p (nI i1) (sp_81_f fi p o)).2))) ((sp_75 s1.1 s1.2 p (nI i1) (sp_81_f fi p o)).2) (nI p) (1 : Int32))) = 0 then false else (if (sp_78 ((sp_75 s1.1 s1.2 p (nI i1) (sp_81_f fi p o)).2)) = (nI o) then true else false)) else true)), xm_i (nI i1), xm_r (20, 0, 0)] (c, (xm_up (xm_up ((sp_75 s1.1 s1.2 p (nI i1) (sp_81_f fi p o)).1) (21, 29, 0) (((36 * i1) + (6 * p)) + o) (bI (sp_76 ((sp_75 s1.1 s1.2 p (nI i1) (sp_81_f fi p o)).1) ((sp_75 s1.1 s1.2 p (nI i1) (sp_81_f fi p o)).2) (nI p) (nI (8 + o))))) (21, 30, 0) (((36 * i1) + (6 * p)) + o) (sp_78 ((sp_75 s1.1 s1.2 p (nI i1) (sp_81_f fi p o)).2))), ((sp_75 s1.1 s1.2 p (nI i1) (sp_81_f fi p o)).2), r) R by
        refine pg_81_126 (fun hc5 => ?_) (fun hc6 => ?_)
        · refine pg_81_146 ?_
          refine pg_81_147 ?_
          repeat rw [if_neg hc5] at KJ
          repeat rw [if_neg hc5]
          exact KJ
        · refine pg_81_129 rfl ?_
          refine pg_81_130 rfl ?_
          refine pg_81_131 ?_
          refine pg_81_132 (sk20 hs) (Nat.le_of_ble_eq_true rfl) (ct_76 (x := (nI p)) (q := (1 : Int32)) hs) ?_
          refine pg_81_135 (fun hc7 => ?_) (fun hc8 => ?_)
          · refine pg_81_150 ?_
            repeat rw [if_pos hc6] at KJ
            repeat rw [if_pos hc7] at KJ
            repeat rw [if_pos hc6]
            repeat rw [if_pos hc7]
            exact KJ
          · refine pg_81_138 rfl ?_
            refine pg_81_139 (sk20 hs) (Nat.le_of_ble_eq_true rfl) (ct_78  hs) ?_
            refine pg_81_142 rfl ?_
            refine pg_81_143 (fun hc9 => ?_) (fun hc10 => ?_)
            · refine pg_81_150 ?_
              repeat rw [if_pos hc6] at KJ
              repeat rw [if_neg hc8] at KJ
              repeat rw [if_neg hc9] at KJ
              repeat rw [if_pos hc6]
              repeat rw [if_neg hc8]
              repeat rw [if_neg hc9]
              exact KJ
            · refine pg_81_146 ?_
              refine pg_81_147 ?_
              repeat rw [if_pos hc6] at KJ
              repeat rw [if_neg hc8] at KJ
              repeat rw [if_pos hc10] at KJ
              repeat rw [if_pos hc6]
              repeat rw [if_neg hc8]
              repeat rw [if_pos hc10]
              exact KJ
      refine pg_81_151 (sk20 hs) (Nat.le_of_ble_eq_true rfl) (ct_79 (p := i1) (g := (bI (if (bI (sp_76 ((sp_75 s1.1 s1.2 p (nI i1) (sp_81_f fi p o)).1) ((sp_75 s1.1 s1.2 p (nI i1) (sp_81_f fi p o)).2) (nI p) (nI (8 + o)))) = 0 then (if (bI (sp_76 (xm_up (xm_up ((sp_75 s1.1 s1.2 p (nI i1) (sp_81_f fi p o)).1) (21, 29, 0) (((36 * i1) + (6 * p)) + o) (bI (sp_76 ((sp_75 s1.1 s1.2 p (nI i1) (sp_81_f fi p o)).1) ((sp_75 s1.1 s1.2 p (nI i1) (sp_81_f fi p o)).2) (nI p) (nI (8 + o))))) (21, 30, 0) (((36 * i1) + (6 * p)) + o) (sp_78 ((sp_75 s1.1 s1.2 p (nI i1) (sp_81_f fi p o)).2))) ((sp_75 s1.1 s1.2 p (nI i1) (sp_81_f fi p o)).2) (nI p) (1 : Int32))) = 0 then false else (if (sp_78 ((sp_75 s1.1 s1.2 p (nI i1) (sp_81_f fi p o)).2)) = (nI o) then true else false)) else true))) hs (by omega)) ?_
      refine pg_81_154 (y := (nI (i1 + 1))) (lv' := [some (xm_r (20, 0, 0)), some (xm_i (nI p)), some (xm_i (nI o)), some (xm_i (fi (21, 27, 0) ((6 * p) + o))), some (xm_l (sp_81_f fi p o)), none, some (xm_i (nI (i1 + 1))), some (xm_i (nI (((36 * i1) + (6 * p)) + o)))]) rfl (nI_1 i1) rfl ?_
      refine pg_81_157 ?_
      exact K1 ((sp_79 (xm_up (xm_up ((sp_75 s1.1 s1.2 p (nI i1) (sp_81_f fi p o)).1) (21, 29, 0) (((36 * i1) + (6 * p)) + o) (bI (sp_76 ((sp_75 s1.1 s1.2 p (nI i1) (sp_81_f fi p o)).1) ((sp_75 s1.1 s1.2 p (nI i1) (sp_81_f fi p o)).2) (nI p) (nI (8 + o))))) (21, 30, 0) (((36 * i1) + (6 * p)) + o) (sp_78 ((sp_75 s1.1 s1.2 p (nI i1) (sp_81_f fi p o)).2))) i1 (bI (if (bI (sp_76 ((sp_75 s1.1 s1.2 p (nI i1) (sp_81_f fi p o)).1) ((sp_75 s1.1 s1.2 p (nI i1) (sp_81_f fi p o)).2) (nI p) (nI (8 + o)))) = 0 then (if (bI (sp_76 (xm_up (xm_up ((sp_75 s1.1 s1.2 p (nI i1) (sp_81_f fi p o)).1) (21, 29, 0) (((36 * i1) + (6 * p)) + o) (bI (sp_76 ((sp_75 s1.1 s1.2 p (nI i1) (sp_81_f fi p o)).1) ((sp_75 s1.1 s1.2 p (nI i1) (sp_81_f fi p o)).2) (nI p) (nI (8 + o))))) (21, 30, 0) (((36 * i1) + (6 * p)) + o) (sp_78 ((sp_75 s1.1 s1.2 p (nI i1) (sp_81_f fi p o)).2))) ((sp_75 s1.1 s1.2 p (nI i1) (sp_81_f fi p o)).2) (nI p) (1 : Int32))) = 0 then false else (if (sp_78 ((sp_75 s1.1 s1.2 p (nI i1) (sp_81_f fi p o)).2)) = (nI o) then true else false)) else true))), ((sp_75 s1.1 s1.2 p (nI i1) (sp_81_f fi p o)).2)) (by unfold sp_81_51; try rw [if_neg hc4]; all_goals rfl) _
  · intro hd1x11 u7
    show xm_G E (d + 3) true 81 51 [some (xm_r (20, 0, 0)), some (xm_i (nI p)), some (xm_i (nI o)), some (xm_i (fi (21, 27, 0) ((6 * p) + o))), some (xm_l (sp_81_f fi p o)), none, some (xm_i (nI n)), u7] [] (c, ((lq_it n (sp_81_51 fi p o) ((if (fi (21, 27, 0) ((6 * p) + o)) = 0 then ((sp_72 fi p (1 : Int32) (nI o)).2) else ((sp_72 fi p (nI (8 + o)) (fi (21, 28, 0) ((6 * p) + o))).2)), fl)).1), ((lq_it n (sp_81_51 fi p o) ((if (fi (21, 27, 0) ((6 * p) + o)) = 0 then ((sp_72 fi p (1 : Int32) (nI o)).2) else ((sp_72 fi p (nI (8 + o)) (fi (21, 28, 0) ((6 * p) + o))).2)), fl)).2), r) R
    refine pg_81_51 rfl ?_
    refine pg_81_53 rfl ?_
    refine pg_81_54 (sk20 hs) ?_
    refine go_top (y := nI n) (fz_kp hf (kp_tr (kp_if (kp_tr (kp_re [2023, 2025, 2124, 2129, 2130] fi) rfl (kp_sp_72 fi p (1 : Int32) (nI o))) (kp_tr (kp_re [2023, 2025, 2124, 2129, 2130] fi) rfl (kp_sp_72 fi p (nI (8 + o)) (fi (21, 28, 0) ((6 * p) + o))))) rfl (kp_it (L := [2025, 2124, 2129, 2130]) (p := fun (s : FI × FL) => s.1) (N := n) (F := sp_81_51 fi p o) (s0 := ((if (fi (21, 27, 0) ((6 * p) + o)) = 0 then ((sp_72 fi p (1 : Int32) (nI o)).2) else ((sp_72 fi p (nI (8 + o)) (fi (21, 28, 0) ((6 * p) + o))).2)), fl)) (kp_re [2025, 2124, 2129, 2130] (if (fi (21, 27, 0) ((6 * p) + o)) = 0 then ((sp_72 fi p (1 : Int32) (nI o)).2) else ((sp_72 fi p (nI (8 + o)) (fi (21, 28, 0) ((6 * p) + o))).2))) (fun i s => kp_sp_81_51 fi p o i s))) rfl rfl rfl).2 ?_
    refine pg_81_57 (fun _ => ?_) (fun hc => absurd (nx_le (a := n) (b := n) rfl rfl (by omega) (by omega)) hc)
    exact go_eq (hR.symm.trans (by unfold sp_81; all_goals rfl)) (pg_81_160)
-- 80: Model.sendRelays
def sp_80_2 (i1 : Nat) (s1 : FI) : FI := (xm_up s1 (21, 29, 0) i1 (0 : Int32))
theorem kp_sp_80_2 (i1 : Nat) (s1 : FI) : kp [2129] s1 (sp_80_2 i1 s1) := by
  unfold sp_80_2
  exact (kp_up (kp_re [2129] s1) rfl)
def sp_80_34 (n : Nat) (i1 : Nat) (i2 : Nat) (s2 : FI × FL) : FI × FL := if (s2.1 (21, 11, 0) i1) = 0 then (if (nI i2) = (nI i1) then ((s2.1, s2.2)) else ((((sp_81 n s2.1 s2.2 i1 i2).1), ((sp_81 n s2.1 s2.2 i1 i2).2)))) else ((s2.1, s2.2))
theorem kp_sp_80_34 (n : Nat) (i1 : Nat) (i2 : Nat) (s2 : FI × FL) : kp [2023, 2025, 2124, 2129, 2130] s2.1 ((sp_80_34 n i1 i2 s2).1) := by
  unfold sp_80_34
  rcases Classical.em ((s2.1 (21, 11, 0) i1) = 0) with hc | hc
  · (try rw [if_pos hc])
    rcases Classical.em ((nI i2) = (nI i1)) with hc | hc
    · (try rw [if_pos hc])
      exact (kp_re [2023, 2025, 2124, 2129, 2130] s2.1)
    · (try rw [if_neg hc])
      exact (kp_tr (kp_re [2023, 2025, 2124, 2129, 2130] s2.1) rfl (kp_sp_81 n s2.1 s2.2 i1 i2))
  · (try rw [if_neg hc])
    exact (kp_re [2023, 2025, 2124, 2129, 2130] s2.1)
def sp_80_24 (n : Nat) (i1 : Nat) (s1 : FI × FL) : FI × FL := (((lq_it n (sp_80_34 n i1) (s1.1, s1.2)).1), ((lq_it n (sp_80_34 n i1) (s1.1, s1.2)).2))
theorem kp_sp_80_24 (n : Nat) (i1 : Nat) (s1 : FI × FL) : kp [2023, 2025, 2124, 2129, 2130] s1.1 ((sp_80_24 n i1 s1).1) := by
  unfold sp_80_24
  exact (kp_tr (kp_re [2023, 2025, 2124, 2129, 2130] s1.1) rfl (kp_it (L := [2023, 2025, 2124, 2129, 2130]) (p := fun (s : FI × FL) => s.1) (N := n) (F := sp_80_34 n i1) (s0 := (s1.1, s1.2)) (kp_re [2023, 2025, 2124, 2129, 2130] s1.1) (fun i s => kp_sp_80_34 n i1 i s)))
def sp_80 (n : Nat) (fi : FI) (fl : FL) : FI × FL := (((lq_it n (sp_80_24 n) ((lq_it 216 sp_80_2 fi), fl)).1), ((lq_it n (sp_80_24 n) ((lq_it 216 sp_80_2 fi), fl)).2))
theorem kp_sp_80 (n : Nat) (fi : FI) (fl : FL) : kp [2023, 2025, 2124, 2129, 2130] fi ((sp_80 n fi fl).1) := by
  unfold sp_80
  exact (kp_tr (kp_tr (kp_re [2023, 2025, 2124, 2129, 2130] fi) rfl (kp_it (L := [2129]) (p := fun (s : FI) => s) (N := 216) (F := sp_80_2) (s0 := fi) (kp_re [2129] fi) (fun i s => kp_sp_80_2 i s))) rfl (kp_it (L := [2023, 2025, 2124, 2129, 2130]) (p := fun (s : FI × FL) => s.1) (N := n) (F := sp_80_24 n) (s0 := ((lq_it 216 sp_80_2 fi), fl)) (kp_re [2023, 2025, 2124, 2129, 2130] (lq_it 216 sp_80_2 fi)) (fun i s => kp_sp_80_24 n i s)))
set_option maxRecDepth 4000 in
theorem ct_80 {n : Nat} {E : xm_E} {c : Nat × Nat} {fi : FI} {fl : FL} {r : xm_I → Nat → Option xm_I} {d : Nat} (hs : sh n E c r) (hf : fz n fi) : xm_C E (d + 5) true 80 [xm_r (20, 0, 0)] (c, fi, fl, r) (.inl (none), (c, (sp_80 n fi fl).1, (sp_80 n fi fl).2, r)) := by
  have hn := sh_n hs
  suffices key : ∀ R : xm_O, ((.inl (none), (c, (sp_80 n fi fl).1, (sp_80 n fi fl).2, r)) : xm_O) = R → xm_G E (d + 4) true 80 0 [some (xm_r (20, 0, 0)), none, none] [] (c, fi, fl, r) R from go_inr (by decide) (Nat.le_of_ble_eq_true rfl) (key _ rfl)
  intro R hR
  refine pg_80_0 ?_
  refine pg_80_1 (lv' := [some (xm_r (20, 0, 0)), some (xm_i (0 : Int32)), none]) rfl ?_
  refine (lq_li (N := 216) (f := sp_80_2) (s0 := fi) (P := fun i1 s1 => xm_G E (d + 4) true 80 2 [some (xm_r (20, 0, 0)), some (xm_i (nI i1)), none] [] (c, s1, fl, r) R) (I := fun i1 s1 => kp [2129] fi s1) (kp_re [2129] _) (fun i1 s1 hi1 hk1 => kp_tr hk1 rfl (kp_sp_80_2 i1 s1)) ?_ ?_)
  · intro i1 s1 hi1 hk1 K1
    show xm_G E (d + 4) true 80 2 [some (xm_r (20, 0, 0)), some (xm_i (nI i1)), none] [] (c, s1, fl, r) R
    refine pg_80_2 rfl ?_
    refine pg_80_3 ?_
    refine pg_80_6 (fun hc => absurd hc (nx_nle (a := i1) (b := 216) rfl (rfl : (216 : Int32) = nI 216) (by omega) (by omega))) (fun _ => ?_)
    refine pg_80_9 rfl ?_
    refine pg_80_10 (sk20 hs) (sr20_29 hs) ?_
    refine pg_80_13 rfl ?_
    refine pg_80_14 ?_
    refine pg_80_15 (sk21_29 hs) (i := i1) rfl (by omega) (by omega) (Or.inl rfl) ?_
    refine pg_80_16 (y := (nI (i1 + 1))) (lv' := [some (xm_r (20, 0, 0)), some (xm_i (nI (i1 + 1))), none]) rfl (nI_1 i1) rfl ?_
    refine pg_80_19 ?_
    exact K1 (xm_up s1 (21, 29, 0) i1 (0 : Int32)) (by unfold sp_80_2; all_goals rfl)
  · intro hd1x1
    show xm_G E (d + 4) true 80 2 [some (xm_r (20, 0, 0)), some (xm_i (nI 216)), none] [] (c, (lq_it 216 sp_80_2 fi), fl, r) R
    refine pg_80_2 rfl ?_
    refine pg_80_3 ?_
    refine pg_80_6 (fun _ => ?_) (fun hc => absurd (nx_le (a := 216) (b := 216) rfl (rfl : (216 : Int32) = nI 216) (by omega) (by omega)) hc)
    refine pg_80_22 ?_
    refine pg_80_23 (lv' := [some (xm_r (20, 0, 0)), some (xm_i (0 : Int32)), none]) rfl ?_
    refine (lq_li (N := n) (f := sp_80_24 n) (s0 := ((lq_it 216 sp_80_2 fi), fl)) (P := fun i1 s1 => ∀ u2 : Option xm_V, xm_G E (d + 4) true 80 24 [some (xm_r (20, 0, 0)), some (xm_i (nI i1)), u2] [] (c, s1.1, s1.2, r) R) (I := fun i1 s1 => kp [2023, 2025, 2124, 2129, 2130] (lq_it 216 sp_80_2 fi) s1.1) (kp_re [2023, 2025, 2124, 2129, 2130] _) (fun i1 s1 hi1 hk1 => kp_tr hk1 rfl (kp_sp_80_24 n i1 s1)) ?_ ?_) _
    · intro i1 s1 hi1 hk1 K1 u2
      show xm_G E (d + 4) true 80 24 [some (xm_r (20, 0, 0)), some (xm_i (nI i1)), u2] [] (c, s1.1, s1.2, r) R
      refine pg_80_24 rfl ?_
      refine pg_80_25 rfl ?_
      refine pg_80_26 (sk20 hs) ?_
      refine go_top (y := nI n) (fz_kp hf (kp_tr (kp_tr (kp_tr (kp_re [2023, 2025, 2124, 2129, 2130] fi) rfl (kp_it (L := [2129]) (p := fun (s : FI) => s) (N := 216) (F := sp_80_2) (s0 := fi) (kp_re [2129] fi) (fun i s => kp_sp_80_2 i s))) rfl hk1) rfl (kp_re [2023, 2025, 2124, 2129, 2130] s1.1)) rfl rfl rfl).2 ?_
      refine pg_80_29 (fun hc => absurd hc (nx_nle (a := i1) (b := n) rfl rfl (by omega) (by omega))) (fun _ => ?_)
      refine pg_80_32 ?_
      refine pg_80_33 (lv' := [some (xm_r (20, 0, 0)), some (xm_i (nI i1)), some (xm_i (0 : Int32))]) rfl ?_
      refine (lq_li (N := n) (f := sp_80_34 n i1) (s0 := (s1.1, s1.2)) (P := fun i2 s2 => xm_G E (d + 4) true 80 34 [some (xm_r (20, 0, 0)), some (xm_i (nI i1)), some (xm_i (nI i2))] [] (c, s2.1, s2.2, r) R) (I := fun i2 s2 => kp [2023, 2025, 2124, 2129, 2130] s1.1 s2.1) (kp_re [2023, 2025, 2124, 2129, 2130] _) (fun i2 s2 hi2 hk2 => kp_tr hk2 rfl (kp_sp_80_34 n i1 i2 s2)) ?_ ?_)
      · intro i2 s2 hi2 hk2 K2
        show xm_G E (d + 4) true 80 34 [some (xm_r (20, 0, 0)), some (xm_i (nI i1)), some (xm_i (nI i2))] [] (c, s2.1, s2.2, r) R
        refine pg_80_34 rfl ?_
        refine pg_80_35 rfl ?_
        refine pg_80_36 (sk20 hs) ?_
        refine go_top (y := nI n) (fz_kp hf (kp_tr (kp_tr (kp_tr (kp_re [2023, 2025, 2124, 2129, 2130] fi) rfl (kp_it (L := [2129]) (p := fun (s : FI) => s) (N := 216) (F := sp_80_2) (s0 := fi) (kp_re [2129] fi) (fun i s => kp_sp_80_2 i s))) rfl hk1) rfl (kp_tr (kp_tr (kp_re [2023, 2025, 2124, 2129, 2130] s1.1) rfl hk2) rfl (kp_re [2023, 2025, 2124, 2129, 2130] s2.1))) rfl rfl rfl).2 ?_
        refine pg_80_39 (fun hc => absurd hc (nx_nle (a := i2) (b := n) rfl rfl (by omega) (by omega))) (fun _ => ?_)
        refine pg_80_42 rfl ?_
        refine pg_80_43 (sk20 hs) (sr20_11 hs) ?_
        refine pg_80_46 rfl ?_
        refine pg_80_47 (sk21_11 hs) (i := i1) rfl (by omega) (by omega) ?_
        refine pg_80_48 (fun hc2 => ?_) (fun hc3 => ?_)
        · refine pg_80_62 (y := (nI (i2 + 1))) (lv' := [some (xm_r (20, 0, 0)), some (xm_i (nI i1)), some (xm_i (nI (i2 + 1)))]) rfl (nI_1 i2) rfl ?_
          refine pg_80_65 ?_
          exact K2 (s2.1, s2.2) (by unfold sp_80_34; try rw [if_neg hc2]; all_goals rfl)
        · refine pg_80_51 rfl ?_
          refine pg_80_52 rfl ?_
          refine pg_80_53 (fun hc4 => ?_) (fun hc5 => ?_)
          · refine pg_80_62 (y := (nI (i2 + 1))) (lv' := [some (xm_r (20, 0, 0)), some (xm_i (nI i1)), some (xm_i (nI (i2 + 1)))]) rfl (nI_1 i2) rfl ?_
            refine pg_80_65 ?_
            exact K2 (s2.1, s2.2) (by unfold sp_80_34; try rw [if_pos hc3]; try rw [if_pos hc4]; all_goals rfl)
          · refine pg_80_56 rfl ?_
            refine pg_80_57 rfl ?_
            refine pg_80_58 rfl ?_
            refine pg_80_59 (sk20 hs) (Nat.le_of_ble_eq_true rfl) (ct_81 (p := i1) (o := i2) hs (by omega) (by omega) (fz_kp hf (kp_tr (kp_tr (kp_tr (kp_re [2023, 2025, 2124, 2129, 2130] fi) rfl (kp_it (L := [2129]) (p := fun (s : FI) => s) (N := 216) (F := sp_80_2) (s0 := fi) (kp_re [2129] fi) (fun i s => kp_sp_80_2 i s))) rfl hk1) rfl (kp_tr (kp_tr (kp_re [2023, 2025, 2124, 2129, 2130] s1.1) rfl hk2) rfl (kp_re [2023, 2025, 2124, 2129, 2130] s2.1))) rfl rfl rfl)) ?_
            refine pg_80_62 (y := (nI (i2 + 1))) (lv' := [some (xm_r (20, 0, 0)), some (xm_i (nI i1)), some (xm_i (nI (i2 + 1)))]) rfl (nI_1 i2) rfl ?_
            refine pg_80_65 ?_
            exact K2 (((sp_81 n s2.1 s2.2 i1 i2).1), ((sp_81 n s2.1 s2.2 i1 i2).2)) (by unfold sp_80_34; try rw [if_pos hc3]; try rw [if_neg hc5]; all_goals rfl)
      · intro hd2x6
        show xm_G E (d + 4) true 80 34 [some (xm_r (20, 0, 0)), some (xm_i (nI i1)), some (xm_i (nI n))] [] (c, ((lq_it n (sp_80_34 n i1) (s1.1, s1.2)).1), ((lq_it n (sp_80_34 n i1) (s1.1, s1.2)).2), r) R
        refine pg_80_34 rfl ?_
        refine pg_80_35 rfl ?_
        refine pg_80_36 (sk20 hs) ?_
        refine go_top (y := nI n) (fz_kp hf (kp_tr (kp_tr (kp_tr (kp_re [2023, 2025, 2124, 2129, 2130] fi) rfl (kp_it (L := [2129]) (p := fun (s : FI) => s) (N := 216) (F := sp_80_2) (s0 := fi) (kp_re [2129] fi) (fun i s => kp_sp_80_2 i s))) rfl hk1) rfl (kp_tr (kp_re [2023, 2025, 2124, 2129, 2130] s1.1) rfl (kp_it (L := [2023, 2025, 2124, 2129, 2130]) (p := fun (s : FI × FL) => s.1) (N := n) (F := sp_80_34 n i1) (s0 := (s1.1, s1.2)) (kp_re [2023, 2025, 2124, 2129, 2130] s1.1) (fun i s => kp_sp_80_34 n i1 i s)))) rfl rfl rfl).2 ?_
        refine pg_80_39 (fun _ => ?_) (fun hc => absurd (nx_le (a := n) (b := n) rfl rfl (by omega) (by omega)) hc)
        refine pg_80_68 (y := (nI (i1 + 1))) (lv' := [some (xm_r (20, 0, 0)), some (xm_i (nI (i1 + 1))), some (xm_i (nI n))]) rfl (nI_1 i1) rfl ?_
        refine pg_80_71 ?_
        exact K1 (((lq_it n (sp_80_34 n i1) (s1.1, s1.2)).1), ((lq_it n (sp_80_34 n i1) (s1.1, s1.2)).2)) (by unfold sp_80_24; all_goals rfl) _
    · intro hd1x7 u2
      show xm_G E (d + 4) true 80 24 [some (xm_r (20, 0, 0)), some (xm_i (nI n)), u2] [] (c, ((lq_it n (sp_80_24 n) ((lq_it 216 sp_80_2 fi), fl)).1), ((lq_it n (sp_80_24 n) ((lq_it 216 sp_80_2 fi), fl)).2), r) R
      refine pg_80_24 rfl ?_
      refine pg_80_25 rfl ?_
      refine pg_80_26 (sk20 hs) ?_
      refine go_top (y := nI n) (fz_kp hf (kp_tr (kp_tr (kp_re [2023, 2025, 2124, 2129, 2130] fi) rfl (kp_it (L := [2129]) (p := fun (s : FI) => s) (N := 216) (F := sp_80_2) (s0 := fi) (kp_re [2129] fi) (fun i s => kp_sp_80_2 i s))) rfl (kp_it (L := [2023, 2025, 2124, 2129, 2130]) (p := fun (s : FI × FL) => s.1) (N := n) (F := sp_80_24 n) (s0 := ((lq_it 216 sp_80_2 fi), fl)) (kp_re [2023, 2025, 2124, 2129, 2130] (lq_it 216 sp_80_2 fi)) (fun i s => kp_sp_80_24 n i s))) rfl rfl rfl).2 ?_
      refine pg_80_29 (fun _ => ?_) (fun hc => absurd (nx_le (a := n) (b := n) rfl rfl (by omega) (by omega)) hc)
      exact go_eq (hR.symm.trans (by unfold sp_80; all_goals rfl)) (pg_80_74)
-- 94: Model.sendPart
def sp_94_f (fi : FI) (p : Nat) (o : Nat) : Int64 := ((sp_72 fi p (nI (4 + o)) (fi (21, 33, 0) ((6 * o) + p))).1)
def sp_94_23 (fi : FI) (p : Nat) (o : Nat) (i1 : Nat) (s1 : FI × FL) : FI × FL := if (nI i1) = (nI p) then ((s1.1, s1.2)) else (((sp_79 (xm_up (xm_up ((sp_75 s1.1 s1.2 p (nI i1) (sp_94_f fi p o)).1) (21, 34, 0) (((36 * o) + (6 * i1)) + p) (bI (sp_76 ((sp_75 s1.1 s1.2 p (nI i1) (sp_94_f fi p o)).1) ((sp_75 s1.1 s1.2 p (nI i1) (sp_94_f fi p o)).2) (nI p) (nI (4 + o))))) (21, 35, 0) (((36 * o) + (6 * i1)) + p) (sp_78 ((sp_75 s1.1 s1.2 p (nI i1) (sp_94_f fi p o)).2))) i1 (bI (sp_76 ((sp_75 s1.1 s1.2 p (nI i1) (sp_94_f fi p o)).1) ((sp_75 s1.1 s1.2 p (nI i1) (sp_94_f fi p o)).2) (nI p) (nI (4 + o))))), ((sp_75 s1.1 s1.2 p (nI i1) (sp_94_f fi p o)).2)))
theorem kp_sp_94_23 (fi : FI) (p : Nat) (o : Nat) (i1 : Nat) (s1 : FI × FL) : kp [2025, 2124, 2134, 2135] s1.1 ((sp_94_23 fi p o i1 s1).1) := by
  unfold sp_94_23
  rcases Classical.em ((nI i1) = (nI p)) with hc | hc
  · (try rw [if_pos hc])
    exact (kp_re [2025, 2124, 2134, 2135] s1.1)
  · (try rw [if_neg hc])
    exact (kp_tr (kp_up (kp_up (kp_tr (kp_re [2025, 2124, 2134, 2135] s1.1) rfl (kp_sp_75 s1.1 s1.2 p (nI i1) (sp_94_f fi p o))) rfl) rfl) rfl (kp_sp_79 (xm_up (xm_up ((sp_75 s1.1 s1.2 p (nI i1) (sp_94_f fi p o)).1) (21, 34, 0) (((36 * o) + (6 * i1)) + p) (bI (sp_76 ((sp_75 s1.1 s1.2 p (nI i1) (sp_94_f fi p o)).1) ((sp_75 s1.1 s1.2 p (nI i1) (sp_94_f fi p o)).2) (nI p) (nI (4 + o))))) (21, 35, 0) (((36 * o) + (6 * i1)) + p) (sp_78 ((sp_75 s1.1 s1.2 p (nI i1) (sp_94_f fi p o)).2))) i1 (bI (sp_76 ((sp_75 s1.1 s1.2 p (nI i1) (sp_94_f fi p o)).1) ((sp_75 s1.1 s1.2 p (nI i1) (sp_94_f fi p o)).2) (nI p) (nI (4 + o))))))
def sp_94 (n : Nat) (fi : FI) (fl : FL) (p : Nat) (o : Nat) : FI × FL := (((lq_it n (sp_94_23 fi p o) (((sp_72 fi p (nI (4 + o)) (fi (21, 33, 0) ((6 * o) + p))).2), fl)).1), ((lq_it n (sp_94_23 fi p o) (((sp_72 fi p (nI (4 + o)) (fi (21, 33, 0) ((6 * o) + p))).2), fl)).2))
theorem kp_sp_94 (n : Nat) (fi : FI) (fl : FL) (p : Nat) (o : Nat) : kp [2023, 2025, 2124, 2134, 2135] fi ((sp_94 n fi fl p o).1) := by
  unfold sp_94
  exact (kp_tr (kp_tr (kp_re [2023, 2025, 2124, 2134, 2135] fi) rfl (kp_sp_72 fi p (nI (4 + o)) (fi (21, 33, 0) ((6 * o) + p)))) rfl (kp_it (L := [2025, 2124, 2134, 2135]) (p := fun (s : FI × FL) => s.1) (N := n) (F := sp_94_23 fi p o) (s0 := (((sp_72 fi p (nI (4 + o)) (fi (21, 33, 0) ((6 * o) + p))).2), fl)) (kp_re [2025, 2124, 2134, 2135] ((sp_72 fi p (nI (4 + o)) (fi (21, 33, 0) ((6 * o) + p))).2)) (fun i s => kp_sp_94_23 fi p o i s)))
set_option maxRecDepth 4000 in
theorem ct_94 {n : Nat} {E : xm_E} {c : Nat × Nat} {fi : FI} {fl : FL} {r : xm_I → Nat → Option xm_I} {d : Nat} {p : Nat} {o : Nat} (hs : sh n E c r) (hp : p < n) (ho : o < 4) (hf : fz n fi) : xm_C E (d + 4) true 94 [xm_r (20, 0, 0), xm_i (nI p), xm_i (nI o)] (c, fi, fl, r) (.inl (none), (c, (sp_94 n fi fl p o).1, (sp_94 n fi fl p o).2, r)) := by
  have hn := sh_n hs
  suffices key : ∀ R : xm_O, ((.inl (none), (c, (sp_94 n fi fl p o).1, (sp_94 n fi fl p o).2, r)) : xm_O) = R → xm_G E (d + 3) true 94 0 [some (xm_r (20, 0, 0)), some (xm_i (nI p)), some (xm_i (nI o)), none, none, none, none] [] (c, fi, fl, r) R from go_inr (by decide) (Nat.le_of_ble_eq_true rfl) (key _ rfl)
  intro R hR
  refine pg_94_0 rfl ?_
  refine pg_94_1 rfl ?_
  refine pg_94_2 ?_
  refine pg_94_3 rfl ?_
  refine pg_94_4 ?_
  refine go_top (y := nI (4 + o)) (nx_add (rfl : (4 : Int32) = nI 4) rfl) ?_
  refine pg_94_5 rfl ?_
  refine pg_94_6 (sk20 hs) (sr20_33 hs) ?_
  refine pg_94_9 ?_
  refine pg_94_11 rfl ?_
  refine pg_94_12 ?_
  refine go_top (y := nI (6 * o)) (nx_mul (rfl : (6 : Int32) = nI 6) rfl) ?_
  refine pg_94_13 rfl ?_
  refine pg_94_14 ?_
  refine go_top (y := nI ((6 * o) + p)) (nx_add rfl rfl) ?_
  refine pg_94_15 (Or.inl (sk21_33 hs)) (i := ((6 * o) + p)) rfl (by omega) (by omega) ?_
  refine pg_94_16 (sk20 hs) (Nat.le_of_ble_eq_true rfl) (ct_72 (p := p) (q := (nI (4 + o))) (x := (fi (21, 33, 0) ((6 * o) + p))) hs (by omega)) ?_
  refine pg_94_19 (lv' := [some (xm_r (20, 0, 0)), some (xm_i (nI p)), some (xm_i (nI o)), some (xm_l (sp_94_f fi p o)), none, none, none]) rfl ?_
  refine pg_94_20 ?_
  refine pg_94_21 (lv' := [some (xm_r (20, 0, 0)), some (xm_i (nI p)), some (xm_i (nI o)), some (xm_l (sp_94_f fi p o)), none, some (xm_i (0 : Int32)), none]) rfl ?_
  refine (lq_li (N := n) (f := sp_94_23 fi p o) (s0 := (((sp_72 fi p (nI (4 + o)) (fi (21, 33, 0) ((6 * o) + p))).2), fl)) (P := fun i1 s1 => ∀ u6 : Option xm_V, xm_G E (d + 3) true 94 23 [some (xm_r (20, 0, 0)), some (xm_i (nI p)), some (xm_i (nI o)), some (xm_l (sp_94_f fi p o)), none, some (xm_i (nI i1)), u6] [] (c, s1.1, s1.2, r) R) (I := fun i1 s1 => kp [2025, 2124, 2134, 2135] ((sp_72 fi p (nI (4 + o)) (fi (21, 33, 0) ((6 * o) + p))).2) s1.1) (kp_re [2025, 2124, 2134, 2135] _) (fun i1 s1 hi1 hk1 => kp_tr hk1 rfl (kp_sp_94_23 fi p o i1 s1)) ?_ ?_) _
  · intro i1 s1 hi1 hk1 K1 u6
    show xm_G E (d + 3) true 94 23 [some (xm_r (20, 0, 0)), some (xm_i (nI p)), some (xm_i (nI o)), some (xm_l (sp_94_f fi p o)), none, some (xm_i (nI i1)), u6] [] (c, s1.1, s1.2, r) R
    refine pg_94_23 rfl ?_
    refine pg_94_25 rfl ?_
    refine pg_94_26 (sk20 hs) ?_
    refine go_top (y := nI n) (fz_kp hf (kp_tr (kp_tr (kp_tr (kp_re [2023, 2025, 2124, 2134, 2135] fi) rfl (kp_sp_72 fi p (nI (4 + o)) (fi (21, 33, 0) ((6 * o) + p)))) rfl hk1) rfl (kp_re [2025, 2124, 2134, 2135] s1.1)) rfl rfl rfl).2 ?_
    refine pg_94_29 (fun hc => absurd hc (nx_nle (a := i1) (b := n) rfl rfl (by omega) (by omega))) (fun _ => ?_)
    refine pg_94_32 rfl ?_
    refine pg_94_34 rfl ?_
    refine pg_94_35 (fun hc1 => ?_) (fun hc2 => ?_)
    · refine pg_94_99 (y := (nI (i1 + 1))) (lv' := [some (xm_r (20, 0, 0)), some (xm_i (nI p)), some (xm_i (nI o)), some (xm_l (sp_94_f fi p o)), none, some (xm_i (nI (i1 + 1))), u6]) rfl (nI_1 i1) rfl ?_
      refine pg_94_102 ?_
      exact K1 (s1.1, s1.2) (by unfold sp_94_23; try rw [if_pos hc1]; all_goals rfl) _
    · refine pg_94_38 rfl ?_
      refine pg_94_39 rfl ?_
      refine pg_94_40 rfl ?_
      refine pg_94_42 rfl ?_
      refine pg_94_43 (sk20 hs) (Nat.le_of_ble_eq_true rfl) (ct_75 (p := p) (y := (nI i1)) (f := (sp_94_f fi p o)) hs (by omega)) ?_
      refine pg_94_46 ?_
      refine pg_94_48 rfl ?_
      refine pg_94_49 ?_
      refine go_top (y := nI (36 * o)) (nx_mul (rfl : (36 : Int32) = nI 36) rfl) ?_
      refine pg_94_50 ?_
      refine pg_94_52 rfl ?_
      refine pg_94_54 ?_
      refine go_top (y := nI (6 * i1)) (nx_mul (rfl : (6 : Int32) = nI 6) rfl) ?_
      refine pg_94_55 ?_
      refine go_top (y := nI ((36 * o) + (6 * i1))) (nx_add rfl rfl) ?_
      refine pg_94_56 rfl ?_
      refine pg_94_57 ?_
      refine go_top (y := nI (((36 * o) + (6 * i1)) + p)) (nx_add rfl rfl) ?_
      refine pg_94_58 (lv' := [some (xm_r (20, 0, 0)), some (xm_i (nI p)), some (xm_i (nI o)), some (xm_l (sp_94_f fi p o)), none, some (xm_i (nI i1)), some (xm_i (nI (((36 * o) + (6 * i1)) + p)))]) rfl ?_
      refine pg_94_60 rfl ?_
      refine pg_94_61 (sk20 hs) (sr20_34 hs) ?_
      refine pg_94_64 rfl ?_
      refine pg_94_66 rfl ?_
      refine pg_94_67 rfl ?_
      refine pg_94_68 ?_
      refine pg_94_69 rfl ?_
      refine pg_94_70 ?_
      refine go_top (y := nI (4 + o)) (nx_add (rfl : (4 : Int32) = nI 4) rfl) ?_
      refine pg_94_71 (sk20 hs) (Nat.le_of_ble_eq_true rfl) (ct_76 (x := (nI p)) (q := (nI (4 + o))) hs) ?_
      refine pg_94_74 (sk21_34 hs) (i := (((36 * o) + (6 * i1)) + p)) rfl (by omega) (by omega) (bI_01 _) ?_
      refine pg_94_75 rfl ?_
      refine pg_94_76 (sk20 hs) (sr20_35 hs) ?_
      refine pg_94_79 rfl ?_
      refine pg_94_81 rfl ?_
      refine pg_94_82 (sk20 hs) (Nat.le_of_ble_eq_true rfl) (ct_78  hs) ?_
      refine pg_94_85 (sk21_35 hs) (i := (((36 * o) + (6 * i1)) + p)) rfl (by omega) (by omega) ?_
      refine pg_94_86 rfl ?_
      refine pg_94_87 rfl ?_
      refine pg_94_89 rfl ?_
      refine pg_94_90 (sk20 hs) (sr20_34 hs) ?_
      refine pg_94_93 rfl ?_
      refine pg_94_95 (sk21_34 hs) (i := (((36 * o) + (6 * i1)) + p)) rfl (by omega) (by omega) ?_
      refine go_top (y := (bI (sp_76 ((sp_75 s1.1 s1.2 p (nI i1) (sp_94_f fi p o)).1) ((sp_75 s1.1 s1.2 p (nI i1) (sp_94_f fi p o)).2) (nI p) (nI (4 + o))))) (by simp [xm_up]) ?_
      refine pg_94_96 (sk20 hs) (Nat.le_of_ble_eq_true rfl) (ct_79 (p := i1) (g := (bI (sp_76 ((sp_75 s1.1 s1.2 p (nI i1) (sp_94_f fi p o)).1) ((sp_75 s1.1 s1.2 p (nI i1) (sp_94_f fi p o)).2) (nI p) (nI (4 + o))))) hs (by omega)) ?_
      refine pg_94_99 (y := (nI (i1 + 1))) (lv' := [some (xm_r (20, 0, 0)), some (xm_i (nI p)), some (xm_i (nI o)), some (xm_l (sp_94_f fi p o)), none, some (xm_i (nI (i1 + 1))), some (xm_i (nI (((36 * o) + (6 * i1)) + p)))]) rfl (nI_1 i1) rfl ?_
      refine pg_94_102 ?_
      exact K1 ((sp_79 (xm_up (xm_up ((sp_75 s1.1 s1.2 p (nI i1) (sp_94_f fi p o)).1) (21, 34, 0) (((36 * o) + (6 * i1)) + p) (bI (sp_76 ((sp_75 s1.1 s1.2 p (nI i1) (sp_94_f fi p o)).1) ((sp_75 s1.1 s1.2 p (nI i1) (sp_94_f fi p o)).2) (nI p) (nI (4 + o))))) (21, 35, 0) (((36 * o) + (6 * i1)) + p) (sp_78 ((sp_75 s1.1 s1.2 p (nI i1) (sp_94_f fi p o)).2))) i1 (bI (sp_76 ((sp_75 s1.1 s1.2 p (nI i1) (sp_94_f fi p o)).1) ((sp_75 s1.1 s1.2 p (nI i1) (sp_94_f fi p o)).2) (nI p) (nI (4 + o))))), ((sp_75 s1.1 s1.2 p (nI i1) (sp_94_f fi p o)).2)) (by unfold sp_94_23; try rw [if_neg hc2]; all_goals rfl) _
  · intro hd1x3 u6
    show xm_G E (d + 3) true 94 23 [some (xm_r (20, 0, 0)), some (xm_i (nI p)), some (xm_i (nI o)), some (xm_l (sp_94_f fi p o)), none, some (xm_i (nI n)), u6] [] (c, ((lq_it n (sp_94_23 fi p o) (((sp_72 fi p (nI (4 + o)) (fi (21, 33, 0) ((6 * o) + p))).2), fl)).1), ((lq_it n (sp_94_23 fi p o) (((sp_72 fi p (nI (4 + o)) (fi (21, 33, 0) ((6 * o) + p))).2), fl)).2), r) R
    refine pg_94_23 rfl ?_
    refine pg_94_25 rfl ?_
    refine pg_94_26 (sk20 hs) ?_
    refine go_top (y := nI n) (fz_kp hf (kp_tr (kp_tr (kp_re [2023, 2025, 2124, 2134, 2135] fi) rfl (kp_sp_72 fi p (nI (4 + o)) (fi (21, 33, 0) ((6 * o) + p)))) rfl (kp_it (L := [2025, 2124, 2134, 2135]) (p := fun (s : FI × FL) => s.1) (N := n) (F := sp_94_23 fi p o) (s0 := (((sp_72 fi p (nI (4 + o)) (fi (21, 33, 0) ((6 * o) + p))).2), fl)) (kp_re [2025, 2124, 2134, 2135] ((sp_72 fi p (nI (4 + o)) (fi (21, 33, 0) ((6 * o) + p))).2)) (fun i s => kp_sp_94_23 fi p o i s))) rfl rfl rfl).2 ?_
    refine pg_94_29 (fun _ => ?_) (fun hc => absurd (nx_le (a := n) (b := n) rfl rfl (by omega) (by omega)) hc)
    exact go_eq (hR.symm.trans (by unfold sp_94; all_goals rfl)) (pg_94_105)
