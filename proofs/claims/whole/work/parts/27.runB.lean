/-! Functions and contracts: Line. Written by wip/whole/prog. -/
-- 37: Line.beginRound
def sp_37 (fi : FI) (x : Int32) : FI := (xm_up fi (2, 0, 0) 4 (x &&& (255 : Int32)))
theorem kp_sp_37 (fi : FI) (x : Int32) : kp [204] fi (sp_37 fi x) := by
  unfold sp_37
  exact (kp_up (kp_re [204] fi) rfl)
set_option maxRecDepth 4000 in
theorem ct_37 {n : Nat} {E : xm_E} {c : Nat × Nat} {fi : FI} {fl : FL} {r : xm_I → Nat → Option xm_I} {d : Nat} {x : Int32} (hs : sh n E c r) : xm_C E (d + 1) true 37 [xm_r (2, 0, 0), xm_i x] (c, fi, fl, r) (.inl (none), (c, (sp_37 fi x), fl, r)) := by
  have hn := sh_n hs
  suffices key : ∀ R : xm_O, ((.inl (none), (c, (sp_37 fi x), fl, r)) : xm_O) = R → xm_G E (d + 0) true 37 0 [some (xm_r (2, 0, 0)), some (xm_i x)] [] (c, fi, fl, r) R from go_inr (by decide) (Nat.le_of_ble_eq_true rfl) (key _ rfl)
  intro R hR
  refine pg_37_0 rfl ?_
  refine pg_37_1 rfl ?_
  refine pg_37_2 ?_
  refine pg_37_5 ?_
  refine pg_37_6 (sk2 hs) ?_
  exact go_eq (hR.symm.trans (by unfold sp_37; all_goals rfl)) (pg_37_9)
-- 38: Line.send
def sp_38 (fi : FI) (fl : FL) (p : Nat) (q : Int32) (x : Int32) : FI := (xm_up (xm_up (xm_up (xm_up (xm_up (xm_up (xm_up fi (2, 0, 0) 3 (if (fi (3, 0, 0) p) = (4 : Int32) then ((fi (2, 0, 0) 3) + (1 : Int32)) else (fi (2, 0, 0) 3))) (2, 0, 0) 6 (bI (if (fi (3, 0, 0) p) = (1 : Int32) then false else (if (fi (3, 0, 0) p) = (4 : Int32) then false else true)))) (2, 0, 0) 5 (nI p)) (2, 0, 0) 7 (bI (if (bI (sp_118 (if (fi (3, 0, 0) p) = (2 : Int32) then ((sp_120 (nI p) q (fi (2, 0, 0) 4) x) ^^^ (fl (4, 0, 0) p)) else (sp_120 (nI p) q (fi (2, 0, 0) 4) x)))) = 0 then false else (if (sp_121 (if (fi (3, 0, 0) p) = (2 : Int32) then ((sp_120 (nI p) q (fi (2, 0, 0) 4) x) ^^^ (fl (4, 0, 0) p)) else (sp_120 (nI p) q (fi (2, 0, 0) 4) x))) = (nI p) then (if (sp_122 (if (fi (3, 0, 0) p) = (2 : Int32) then ((sp_120 (nI p) q (fi (2, 0, 0) 4) x) ^^^ (fl (4, 0, 0) p)) else (sp_120 (nI p) q (fi (2, 0, 0) 4) x))) = (fi (2, 0, 0) 4) then true else false) else false)))) (2, 0, 0) 8 (sp_123 (if (fi (3, 0, 0) p) = (2 : Int32) then ((sp_120 (nI p) q (fi (2, 0, 0) 4) x) ^^^ (fl (4, 0, 0) p)) else (sp_120 (nI p) q (fi (2, 0, 0) 4) x)))) (2, 0, 0) 9 (sp_124 (if (fi (3, 0, 0) p) = (2 : Int32) then ((sp_120 (nI p) q (fi (2, 0, 0) 4) x) ^^^ (fl (4, 0, 0) p)) else (sp_120 (nI p) q (fi (2, 0, 0) 4) x)))) (2, 0, 0) 10 (if (fi (3, 0, 0) p) = (3 : Int32) then ((sp_124 (if (fi (3, 0, 0) p) = (2 : Int32) then ((sp_120 (nI p) q (fi (2, 0, 0) 4) x) ^^^ (fl (4, 0, 0) p)) else (sp_120 (nI p) q (fi (2, 0, 0) 4) x))) ^^^ ((fl (4, 0, 0) p).toInt32)) else (sp_124 (if (fi (3, 0, 0) p) = (2 : Int32) then ((sp_120 (nI p) q (fi (2, 0, 0) 4) x) ^^^ (fl (4, 0, 0) p)) else (sp_120 (nI p) q (fi (2, 0, 0) 4) x)))))
theorem kp_sp_38 (fi : FI) (fl : FL) (p : Nat) (q : Int32) (x : Int32) : kp [203, 205, 206, 207, 208, 209, 210] fi (sp_38 fi fl p q x) := by
  unfold sp_38
  exact (kp_up (kp_up (kp_up (kp_up (kp_up (kp_up (kp_up (kp_re [203, 205, 206, 207, 208, 209, 210] fi) rfl) rfl) rfl) rfl) rfl) rfl) rfl)
set_option maxRecDepth 4000 in
theorem ct_38 {n : Nat} {E : xm_E} {c : Nat × Nat} {fi : FI} {fl : FL} {r : xm_I → Nat → Option xm_I} {d : Nat} {p : Nat} {q : Int32} {x : Int32} (hs : sh n E c r) (hp : p < n) : xm_C E (d + 3) true 38 [xm_r (2, 0, 0), xm_i (nI p), xm_i q, xm_i x] (c, fi, fl, r) (.inl (none), (c, (sp_38 fi fl p q x), fl, r)) := by
  have hn := sh_n hs
  suffices key : ∀ R : xm_O, ((.inl (none), (c, (sp_38 fi fl p q x), fl, r)) : xm_O) = R → xm_G E (d + 2) true 38 0 [some (xm_r (2, 0, 0)), some (xm_i (nI p)), some (xm_i q), some (xm_i x), none, none, none] [] (c, fi, fl, r) R from go_inr (by decide) (Nat.le_of_ble_eq_true rfl) (key _ rfl)
  intro R hR
  refine pg_38_0 rfl ?_
  refine pg_38_1 (sk2 hs) (sr2_0 hs) ?_
  refine pg_38_4 rfl ?_
  refine pg_38_5 (Or.inl (sk3 hs)) (i := p) rfl (by omega) (by omega) ?_
  refine pg_38_6 (lv' := [some (xm_r (2, 0, 0)), some (xm_i (nI p)), some (xm_i q), some (xm_i x), some (xm_i (fi (3, 0, 0) p)), none, none]) rfl ?_
  suffices KJ : xm_G E (d + 2) true 38 24 [some (xm_r (2, 0, 0)), some (xm_i (nI p)), some (xm_i q), some (xm_i x), some (xm_i (fi (3, 0, 0) p)), none, none] [] (c, (xm_up fi (2, 0, 0) 3 (if (fi (3, 0, 0) p) = (4 : Int32) then ((fi (2, 0, 0) 3) + (1 : Int32)) else (fi (2, 0, 0) 3))), fl, r) R by
    refine pg_38_8 rfl ?_
    refine pg_38_10 ?_
    refine pg_38_11 (fun hc1 => ?_) (fun hc2 => ?_)
    · repeat rw [if_neg hc1] at KJ
      repeat rw [if_neg hc1]
      (try rw [up_same] at KJ); exact KJ
    · refine pg_38_14 rfl ?_
      refine pg_38_15 rfl ?_
      refine pg_38_16 (sk2 hs) ?_
      refine pg_38_19 ?_
      refine pg_38_20 ?_
      refine pg_38_21 (sk2 hs) ?_
      repeat rw [if_pos hc2] at KJ
      repeat rw [if_pos hc2]
      (try rw [up_same] at KJ); exact KJ
  refine pg_38_24 rfl ?_
  suffices KJ : xm_G E (d + 2) true 38 42 [some (xm_r (2, 0, 0)), some (xm_i (nI p)), some (xm_i q), some (xm_i x), some (xm_i (fi (3, 0, 0) p)), none, none] [xm_i (bI (if (fi (3, 0, 0) p) = (1 : Int32) then false else (if (fi (3, 0, 0) p) = (4 : Int32) then false else true))), xm_r (2, 0, 0)] (c, (xm_up fi (2, 0, 0) 3 (if (fi (3, 0, 0) p) = (4 : Int32) then ((fi (2, 0, 0) 3) + (1 : Int32)) else (fi (2, 0, 0) 3))), fl, r) R by
    refine pg_38_25 rfl ?_
    refine pg_38_27 ?_
    refine pg_38_28 (fun hc3 => ?_) (fun hc4 => ?_)
    · refine pg_38_41 ?_
      repeat rw [if_pos hc3] at KJ
      repeat rw [if_pos hc3]
      exact KJ
    · refine pg_38_31 rfl ?_
      refine pg_38_33 ?_
      refine pg_38_34 (fun hc5 => ?_) (fun hc6 => ?_)
      · refine pg_38_41 ?_
        repeat rw [if_neg hc4] at KJ
        repeat rw [if_pos hc5] at KJ
        repeat rw [if_neg hc4]
        repeat rw [if_pos hc5]
        exact KJ
      · refine pg_38_37 ?_
        refine pg_38_38 ?_
        repeat rw [if_neg hc4] at KJ
        repeat rw [if_neg hc6] at KJ
        repeat rw [if_neg hc4]
        repeat rw [if_neg hc6]
        exact KJ
  refine pg_38_42 (sk2 hs) (bI_01 _) ?_
  refine pg_38_45 rfl ?_
  refine pg_38_46 rfl ?_
  refine pg_38_47 (sk2 hs) ?_
  refine pg_38_50 rfl ?_
  refine pg_38_51 rfl ?_
  refine pg_38_52 rfl ?_
  refine pg_38_53 (sk2 hs) ?_
  refine go_top (y := (fi (2, 0, 0) 4)) (by simp [xm_up]) ?_
  refine pg_38_56 rfl ?_
  refine pg_38_57 (Nat.le_of_ble_eq_true rfl) (ct_120 (s := (nI p)) (q := q) (o := (fi (2, 0, 0) 4)) (x := x)) ?_
  refine pg_38_60 (lv' := [some (xm_r (2, 0, 0)), some (xm_i (nI p)), some (xm_i q), some (xm_i x), some (xm_i (fi (3, 0, 0) p)), some (xm_l (sp_120 (nI p) q (fi (2, 0, 0) 4) x)), none]) rfl ?_
  suffices KJ : xm_G E (d + 2) true 38 79 [some (xm_r (2, 0, 0)), some (xm_i (nI p)), some (xm_i q), some (xm_i x), some (xm_i (fi (3, 0, 0) p)), some (xm_l (if (fi (3, 0, 0) p) = (2 : Int32) then ((sp_120 (nI p) q (fi (2, 0, 0) 4) x) ^^^ (fl (4, 0, 0) p)) else (sp_120 (nI p) q (fi (2, 0, 0) 4) x))), none] [] (c, (xm_up (xm_up (xm_up fi (2, 0, 0) 3 (if (fi (3, 0, 0) p) = (4 : Int32) then ((fi (2, 0, 0) 3) + (1 : Int32)) else (fi (2, 0, 0) 3))) (2, 0, 0) 6 (bI (if (fi (3, 0, 0) p) = (1 : Int32) then false else (if (fi (3, 0, 0) p) = (4 : Int32) then false else true)))) (2, 0, 0) 5 (nI p)), fl, r) R by
    refine pg_38_62 rfl ?_
    refine pg_38_64 ?_
    refine pg_38_65 (fun hc7 => ?_) (fun hc8 => ?_)
    · repeat rw [if_neg hc7] at KJ
      repeat rw [if_neg hc7]
      exact KJ
    · refine pg_38_68 rfl ?_
      refine pg_38_70 rfl ?_
      refine pg_38_71 (sk2 hs) (sr2_1 hs) ?_
      refine pg_38_74 rfl ?_
      refine pg_38_75 (sk4 hs) (i := p) rfl (by omega) (by omega) ?_
      refine pg_38_76 ?_
      refine pg_38_77 (lv' := [some (xm_r (2, 0, 0)), some (xm_i (nI p)), some (xm_i q), some (xm_i x), some (xm_i (fi (3, 0, 0) p)), some (xm_l ((sp_120 (nI p) q (fi (2, 0, 0) 4) x) ^^^ (fl (4, 0, 0) p))), none]) rfl ?_
      repeat rw [if_pos hc8] at KJ
      repeat rw [if_pos hc8]
      exact KJ
  refine pg_38_79 rfl ?_
  suffices KJ : xm_G E (d + 2) true 38 114 [some (xm_r (2, 0, 0)), some (xm_i (nI p)), some (xm_i q), some (xm_i x), some (xm_i (fi (3, 0, 0) p)), some (xm_l (if (fi (3, 0, 0) p) = (2 : Int32) then ((sp_120 (nI p) q (fi (2, 0, 0) 4) x) ^^^ (fl (4, 0, 0) p)) else (sp_120 (nI p) q (fi (2, 0, 0) 4) x))), none] [xm_i (bI (if (bI (sp_118 (if (fi (3, 0, 0) p) = (2 : Int32) then ((sp_120 (nI p) q (fi (2, 0, 0) 4) x) ^^^ (fl (4, 0, 0) p)) else (sp_120 (nI p) q (fi (2, 0, 0) 4) x)))) = 0 then false else (if (sp_121 (if (fi (3, 0, 0) p) = (2 : Int32) then ((sp_120 (nI p) q (fi (2, 0, 0) 4) x) ^^^ (fl (4, 0, 0) p)) else (sp_120 (nI p) q (fi (2, 0, 0) 4) x))) = (nI p) then (if (sp_122 (if (fi (3, 0, 0) p) = (2 : Int32) then ((sp_120 (nI p) q (fi (2, 0, 0) 4) x) ^^^ (fl (4, 0, 0) p)) else (sp_120 (nI p) q (fi (2, 0, 0) 4) x))) = (fi (2, 0, 0) 4) then true else false) else false))), xm_r (2, 0, 0)] (c, (xm_up (xm_up (xm_up fi (2, 0, 0) 3 (if (fi (3, 0, 0) p) = (4 : Int32) then ((fi (2, 0, 0) 3) + (1 : Int32)) else (fi (2, 0, 0) 3))) (2, 0, 0) 6 (bI (if (fi (3, 0, 0) p) = (1 : Int32) then false else (if (fi (3, 0, 0) p) = (4 : Int32) then false else true)))) (2, 0, 0) 5 (nI p)), fl, r) R by
    refine pg_38_80 rfl ?_
    refine pg_38_82 (Nat.le_of_ble_eq_true rfl) (ct_118 (f := (if (fi (3, 0, 0) p) = (2 : Int32) then ((sp_120 (nI p) q (fi (2, 0, 0) 4) x) ^^^ (fl (4, 0, 0) p)) else (sp_120 (nI p) q (fi (2, 0, 0) 4) x)))) ?_
    refine pg_38_85 (fun hc9 => ?_) (fun hc10 => ?_)
    · refine pg_38_113 ?_
      repeat rw [if_pos hc9] at KJ
      repeat rw [if_pos hc9]
      exact KJ
    · refine pg_38_88 rfl ?_
      refine pg_38_90 (Nat.le_of_ble_eq_true rfl) (ct_121 (f := (if (fi (3, 0, 0) p) = (2 : Int32) then ((sp_120 (nI p) q (fi (2, 0, 0) 4) x) ^^^ (fl (4, 0, 0) p)) else (sp_120 (nI p) q (fi (2, 0, 0) 4) x)))) ?_
      refine pg_38_93 rfl ?_
      refine pg_38_94 (fun hc11 => ?_) (fun hc12 => ?_)
      · refine pg_38_113 ?_
        repeat rw [if_neg hc10] at KJ
        repeat rw [if_neg hc11] at KJ
        repeat rw [if_neg hc10]
        repeat rw [if_neg hc11]
        exact KJ
      · refine pg_38_97 rfl ?_
        refine pg_38_99 (Nat.le_of_ble_eq_true rfl) (ct_122 (f := (if (fi (3, 0, 0) p) = (2 : Int32) then ((sp_120 (nI p) q (fi (2, 0, 0) 4) x) ^^^ (fl (4, 0, 0) p)) else (sp_120 (nI p) q (fi (2, 0, 0) 4) x)))) ?_
        refine pg_38_102 rfl ?_
        refine pg_38_103 (sk2 hs) ?_
        refine go_top (y := (fi (2, 0, 0) 4)) (by simp [xm_up]) ?_
        refine pg_38_106 (fun hc13 => ?_) (fun hc14 => ?_)
        · refine pg_38_113 ?_
          repeat rw [if_neg hc10] at KJ
          repeat rw [if_pos hc12] at KJ
          repeat rw [if_neg hc13] at KJ
          repeat rw [if_neg hc10]
          repeat rw [if_pos hc12]
          repeat rw [if_neg hc13]
          exact KJ
        · refine pg_38_109 ?_
          refine pg_38_110 ?_
          repeat rw [if_neg hc10] at KJ
          repeat rw [if_pos hc12] at KJ
          repeat rw [if_pos hc14] at KJ
          repeat rw [if_neg hc10]
          repeat rw [if_pos hc12]
          repeat rw [if_pos hc14]
          exact KJ
  refine pg_38_114 (sk2 hs) (bI_01 _) ?_
  refine pg_38_117 rfl ?_
  refine pg_38_118 rfl ?_
  refine pg_38_120 (Nat.le_of_ble_eq_true rfl) (ct_123 (f := (if (fi (3, 0, 0) p) = (2 : Int32) then ((sp_120 (nI p) q (fi (2, 0, 0) 4) x) ^^^ (fl (4, 0, 0) p)) else (sp_120 (nI p) q (fi (2, 0, 0) 4) x)))) ?_
  refine pg_38_123 (sk2 hs) ?_
  refine pg_38_126 rfl ?_
  refine pg_38_127 rfl ?_
  refine pg_38_129 (Nat.le_of_ble_eq_true rfl) (ct_124 (f := (if (fi (3, 0, 0) p) = (2 : Int32) then ((sp_120 (nI p) q (fi (2, 0, 0) 4) x) ^^^ (fl (4, 0, 0) p)) else (sp_120 (nI p) q (fi (2, 0, 0) 4) x)))) ?_
  refine pg_38_132 (sk2 hs) ?_
  refine pg_38_135 rfl ?_
  suffices KJ : xm_G E (d + 2) true 38 161 [some (xm_r (2, 0, 0)), some (xm_i (nI p)), some (xm_i q), some (xm_i x), some (xm_i (fi (3, 0, 0) p)), some (xm_l (if (fi (3, 0, 0) p) = (2 : Int32) then ((sp_120 (nI p) q (fi (2, 0, 0) 4) x) ^^^ (fl (4, 0, 0) p)) else (sp_120 (nI p) q (fi (2, 0, 0) 4) x))), none] [xm_i (if (fi (3, 0, 0) p) = (3 : Int32) then ((sp_124 (if (fi (3, 0, 0) p) = (2 : Int32) then ((sp_120 (nI p) q (fi (2, 0, 0) 4) x) ^^^ (fl (4, 0, 0) p)) else (sp_120 (nI p) q (fi (2, 0, 0) 4) x))) ^^^ ((fl (4, 0, 0) p).toInt32)) else (sp_124 (if (fi (3, 0, 0) p) = (2 : Int32) then ((sp_120 (nI p) q (fi (2, 0, 0) 4) x) ^^^ (fl (4, 0, 0) p)) else (sp_120 (nI p) q (fi (2, 0, 0) 4) x)))), xm_r (2, 0, 0)] (c, (xm_up (xm_up (xm_up (xm_up (xm_up (xm_up fi (2, 0, 0) 3 (if (fi (3, 0, 0) p) = (4 : Int32) then ((fi (2, 0, 0) 3) + (1 : Int32)) else (fi (2, 0, 0) 3))) (2, 0, 0) 6 (bI (if (fi (3, 0, 0) p) = (1 : Int32) then false else (if (fi (3, 0, 0) p) = (4 : Int32) then false else true)))) (2, 0, 0) 5 (nI p)) (2, 0, 0) 7 (bI (if (bI (sp_118 (if (fi (3, 0, 0) p) = (2 : Int32) then ((sp_120 (nI p) q (fi (2, 0, 0) 4) x) ^^^ (fl (4, 0, 0) p)) else (sp_120 (nI p) q (fi (2, 0, 0) 4) x)))) = 0 then false else (if (sp_121 (if (fi (3, 0, 0) p) = (2 : Int32) then ((sp_120 (nI p) q (fi (2, 0, 0) 4) x) ^^^ (fl (4, 0, 0) p)) else (sp_120 (nI p) q (fi (2, 0, 0) 4) x))) = (nI p) then (if (sp_122 (if (fi (3, 0, 0) p) = (2 : Int32) then ((sp_120 (nI p) q (fi (2, 0, 0) 4) x) ^^^ (fl (4, 0, 0) p)) else (sp_120 (nI p) q (fi (2, 0, 0) 4) x))) = (fi (2, 0, 0) 4) then true else false) else false)))) (2, 0, 0) 8 (sp_123 (if (fi (3, 0, 0) p) = (2 : Int32) then ((sp_120 (nI p) q (fi (2, 0, 0) 4) x) ^^^ (fl (4, 0, 0) p)) else (sp_120 (nI p) q (fi (2, 0, 0) 4) x)))) (2, 0, 0) 9 (sp_124 (if (fi (3, 0, 0) p) = (2 : Int32) then ((sp_120 (nI p) q (fi (2, 0, 0) 4) x) ^^^ (fl (4, 0, 0) p)) else (sp_120 (nI p) q (fi (2, 0, 0) 4) x)))), fl, r) R by
    refine pg_38_136 rfl ?_
    refine pg_38_138 ?_
    refine pg_38_139 (fun hc15 => ?_) (fun hc16 => ?_)
    · refine pg_38_157 rfl ?_
      refine pg_38_158 (sk2 hs) ?_
      refine go_top (y := (sp_124 (if (fi (3, 0, 0) p) = (2 : Int32) then ((sp_120 (nI p) q (fi (2, 0, 0) 4) x) ^^^ (fl (4, 0, 0) p)) else (sp_120 (nI p) q (fi (2, 0, 0) 4) x)))) (by simp [xm_up]) ?_
      repeat rw [if_neg hc15] at KJ
      repeat rw [if_neg hc15]
      exact KJ
    · refine pg_38_142 rfl ?_
      refine pg_38_143 (sk2 hs) ?_
      refine go_top (y := (sp_124 (if (fi (3, 0, 0) p) = (2 : Int32) then ((sp_120 (nI p) q (fi (2, 0, 0) 4) x) ^^^ (fl (4, 0, 0) p)) else (sp_120 (nI p) q (fi (2, 0, 0) 4) x)))) (by simp [xm_up]) ?_
      refine pg_38_146 rfl ?_
      refine pg_38_147 (sk2 hs) (sr2_1 hs) ?_
      refine pg_38_150 rfl ?_
      refine pg_38_151 (sk4 hs) (i := p) rfl (by omega) (by omega) ?_
      refine pg_38_152 ?_
      refine pg_38_153 ?_
      refine pg_38_154 ?_
      repeat rw [if_pos hc16] at KJ
      repeat rw [if_pos hc16]
      exact KJ
  refine pg_38_161 (sk2 hs) ?_
  exact go_eq (hR.symm.trans (by unfold sp_38; all_goals rfl)) (pg_38_164)
-- 40: Line.isDue
def sp_40 (fi : FI) (q : Int32) : Bool := if (fi (2, 0, 0) 6) = 0 then (false) else (if (fi (2, 0, 0) 7) = 0 then (false) else (if (fi (2, 0, 0) 8) = q then (true) else (false)))
set_option maxRecDepth 4000 in
theorem ct_40 {n : Nat} {E : xm_E} {c : Nat × Nat} {fi : FI} {fl : FL} {r : xm_I → Nat → Option xm_I} {d : Nat} {md : Bool} {q : Int32} (hs : sh n E c r) : xm_C E (d + 1) md 40 [xm_r (2, 0, 0), xm_i q] (c, fi, fl, r) (.inl (some (xm_i (bI (sp_40 fi q)))), (c, fi, fl, r)) := by
  have hn := sh_n hs
  suffices key : ∀ R : xm_O, ((.inl (some (xm_i (bI (sp_40 fi q)))), (c, fi, fl, r)) : xm_O) = R → xm_G E (d + 0) md 40 0 [some (xm_r (2, 0, 0)), some (xm_i q)] [] (c, fi, fl, r) R from go_inr (by decide) (Nat.le_of_ble_eq_true rfl) (key _ rfl)
  intro R hR
  refine pg_40_0 rfl ?_
  refine pg_40_1 (sk2 hs) ?_
  refine pg_40_4 (fun hc1 => ?_) (fun hc2 => ?_)
  · refine pg_40_26 ?_
    exact go_eq (hR.symm.trans (by unfold sp_40; try rw [if_pos hc1]; all_goals rfl)) (pg_40_27 (Or.inl rfl))
  · refine pg_40_7 rfl ?_
    refine pg_40_8 (sk2 hs) ?_
    refine pg_40_11 (fun hc3 => ?_) (fun hc4 => ?_)
    · refine pg_40_26 ?_
      exact go_eq (hR.symm.trans (by unfold sp_40; try rw [if_neg hc2]; try rw [if_pos hc3]; all_goals rfl)) (pg_40_27 (Or.inl rfl))
    · refine pg_40_14 rfl ?_
      refine pg_40_15 (sk2 hs) ?_
      refine pg_40_18 rfl ?_
      refine pg_40_19 (fun hc5 => ?_) (fun hc6 => ?_)
      · refine pg_40_26 ?_
        exact go_eq (hR.symm.trans (by unfold sp_40; try rw [if_neg hc2]; try rw [if_neg hc4]; try rw [if_neg hc5]; all_goals rfl)) (pg_40_27 (Or.inl rfl))
      · refine pg_40_22 ?_
        refine pg_40_23 ?_
        exact go_eq (hR.symm.trans (by unfold sp_40; try rw [if_neg hc2]; try rw [if_neg hc4]; try rw [if_pos hc6]; all_goals rfl)) (pg_40_27 (Or.inr rfl))
-- 41: Line.contentTo
def sp_41 (fi : FI) (x : Int32) : Int32 := if (x &&& (1 : Int32)) = 0 then ((fi (2, 0, 0) 9)) else ((fi (2, 0, 0) 10))
set_option maxRecDepth 4000 in
theorem ct_41 {n : Nat} {E : xm_E} {c : Nat × Nat} {fi : FI} {fl : FL} {r : xm_I → Nat → Option xm_I} {d : Nat} {md : Bool} {x : Int32} (hs : sh n E c r) : xm_C E (d + 1) md 41 [xm_r (2, 0, 0), xm_i x] (c, fi, fl, r) (.inl (some (xm_i (sp_41 fi x))), (c, fi, fl, r)) := by
  have hn := sh_n hs
  suffices key : ∀ R : xm_O, ((.inl (some (xm_i (sp_41 fi x))), (c, fi, fl, r)) : xm_O) = R → xm_G E (d + 0) md 41 0 [some (xm_r (2, 0, 0)), some (xm_i x)] [] (c, fi, fl, r) R from go_inr (by decide) (Nat.le_of_ble_eq_true rfl) (key _ rfl)
  intro R hR
  refine pg_41_0 rfl ?_
  refine pg_41_1 ?_
  refine pg_41_2 ?_
  refine pg_41_3 (fun hc1 => ?_) (fun hc2 => ?_)
  · refine pg_41_13 rfl ?_
    refine pg_41_14 (sk2 hs) ?_
    exact go_eq (hR.symm.trans (by unfold sp_41; try rw [if_pos hc1]; all_goals rfl)) (pg_41_17)
  · refine pg_41_6 rfl ?_
    refine pg_41_7 (sk2 hs) ?_
    refine pg_41_10 ?_
    exact go_eq (hR.symm.trans (by unfold sp_41; try rw [if_neg hc2]; all_goals rfl)) (pg_41_17)
-- 39: Line.deliver
def sp_39 (fi : FI) (p : Nat) (q : Int32) (i : Nat) (k : Nat) (w : Nat) : FI := if (bI (sp_40 fi q)) = 0 then (if (fi (2, 0, 0) 6) = 0 then (fi) else ((xm_up fi (5, 0, 0) p ((fi (5, 0, 0) p) + (1 : Int32))))) else ((sp_63 fi i k w (sp_41 fi (nI p))))
theorem kp_sp_39 (fi : FI) (p : Nat) (q : Int32) (i : Nat) (k : Nat) (w : Nat) : kp [500, 900, 1000] fi (sp_39 fi p q i k w) := by
  unfold sp_39
  rcases Classical.em ((bI (sp_40 fi q)) = 0) with hc | hc
  · (try rw [if_pos hc])
    rcases Classical.em ((fi (2, 0, 0) 6) = 0) with hc | hc
    · (try rw [if_pos hc])
      exact (kp_re [500, 900, 1000] fi)
    · (try rw [if_neg hc])
      exact (kp_up (kp_re [500, 900, 1000] fi) rfl)
  · (try rw [if_neg hc])
    exact (kp_tr (kp_re [500, 900, 1000] fi) rfl (kp_sp_63 fi i k w (sp_41 fi (nI p))))
set_option maxRecDepth 4000 in
theorem ct_39 {n : Nat} {E : xm_E} {c : Nat × Nat} {fi : FI} {fl : FL} {r : xm_I → Nat → Option xm_I} {d : Nat} {p : Nat} {q : Int32} {i : Nat} {k : Nat} {w : Nat} (hs : sh n E c r) (hp : p < n + 1) (hq : sh_cq n i k) (hw : w < n) (hsd : fi (2, 0, 0) 5 = nI w) : xm_C E (d + 2) true 39 [xm_r (2, 0, 0), xm_i (nI p), xm_i q, xm_r (9, i, k)] (c, fi, fl, r) (.inl (none), (c, (sp_39 fi p q i k w), fl, r)) := by
  have hn := sh_n hs
  suffices key : ∀ R : xm_O, ((.inl (none), (c, (sp_39 fi p q i k w), fl, r)) : xm_O) = R → xm_G E (d + 1) true 39 0 [some (xm_r (2, 0, 0)), some (xm_i (nI p)), some (xm_i q), some (xm_r (9, i, k))] [] (c, fi, fl, r) R from go_inr (by decide) (Nat.le_of_ble_eq_true rfl) (key _ rfl)
  intro R hR
  refine pg_39_0 rfl ?_
  refine pg_39_1 rfl ?_
  refine pg_39_2 (sk2 hs) (Nat.le_of_ble_eq_true rfl) (ct_40 (q := q) hs) ?_
  refine pg_39_5 (fun hc1 => ?_) (fun hc2 => ?_)
  · refine pg_39_24 rfl ?_
    refine pg_39_25 (sk2 hs) ?_
    refine pg_39_28 (fun hc3 => ?_) (fun hc4 => ?_)
    · exact go_eq (hR.symm.trans (by unfold sp_39; try rw [if_pos hc1]; try rw [if_pos hc3]; all_goals rfl)) (pg_39_41)
    · refine pg_39_31 rfl ?_
      refine pg_39_32 (sk2 hs) (sr2_2 hs) ?_
      refine pg_39_35 rfl ?_
      refine pg_39_36 rfl rfl ?_
      refine pg_39_37 (Or.inl (sk5 hs)) (i := p) rfl (by omega) (by omega) ?_
      refine pg_39_38 ?_
      refine pg_39_39 ?_
      refine pg_39_40 (sk5 hs) (i := p) rfl (by omega) (by omega) ?_
      exact go_eq (hR.symm.trans (by unfold sp_39; try rw [if_pos hc1]; try rw [if_neg hc4]; all_goals rfl)) (pg_39_41)
  · refine pg_39_8 rfl ?_
    refine pg_39_9 rfl ?_
    refine pg_39_10 (sk2 hs) ?_
    refine go_top (y := nI w) (kp_at (kp_re [500, 900, 1000] fi) (2, 0, 0) 5 rfl hsd) ?_
    refine pg_39_13 rfl ?_
    refine pg_39_14 rfl ?_
    refine pg_39_15 (sk2 hs) (Nat.le_of_ble_eq_true rfl) (ct_41 (x := (nI p)) hs) ?_
    refine pg_39_18 (sk9 hs (i := i) (k := k) hq) (Nat.le_of_ble_eq_true rfl) (ct_63 (i := i) (k := k) (p := w) (x := (sp_41 fi (nI p))) hs hq (by omega)) ?_
    refine pg_39_21 ?_
    exact go_eq (hR.symm.trans (by unfold sp_39; try rw [if_neg hc2]; all_goals rfl)) (pg_39_41)
-- 42: Line.deliverRelay
def sp_42 (fi : FI) (p : Nat) (o : Nat) (i : Nat) (k : Nat) (w : Nat) : FI := if (bI (if (bI (sp_40 fi (1 : Int32))) = 0 then false else (if (sp_41 fi (nI p)) = (nI o) then true else false))) = 0 then ((sp_39 fi p ((8 : Int32) + (nI o)) i k w)) else (fi)
theorem kp_sp_42 (fi : FI) (p : Nat) (o : Nat) (i : Nat) (k : Nat) (w : Nat) : kp [500, 900, 1000] fi (sp_42 fi p o i k w) := by
  unfold sp_42
  rcases Classical.em ((bI (if (bI (sp_40 fi (1 : Int32))) = 0 then false else (if (sp_41 fi (nI p)) = (nI o) then true else false))) = 0) with hc | hc
  · (try rw [if_pos hc])
    exact (kp_tr (kp_re [500, 900, 1000] fi) rfl (kp_sp_39 fi p ((8 : Int32) + (nI o)) i k w))
  · (try rw [if_neg hc])
    exact (kp_re [500, 900, 1000] fi)
set_option maxRecDepth 4000 in
theorem ct_42 {n : Nat} {E : xm_E} {c : Nat × Nat} {fi : FI} {fl : FL} {r : xm_I → Nat → Option xm_I} {d : Nat} {p : Nat} {o : Nat} {i : Nat} {k : Nat} {w : Nat} (hs : sh n E c r) (hp : p < n + 1) (hq : sh_cq n i k) (hw : w < n) (hsd : fi (2, 0, 0) 5 = nI w) : xm_C E (d + 3) true 42 [xm_r (2, 0, 0), xm_i (nI p), xm_i (nI o), xm_r (9, i, k)] (c, fi, fl, r) (.inl (none), (c, (sp_42 fi p o i k w), fl, r)) := by
  have hn := sh_n hs
  suffices key : ∀ R : xm_O, ((.inl (none), (c, (sp_42 fi p o i k w), fl, r)) : xm_O) = R → xm_G E (d + 2) true 42 0 [some (xm_r (2, 0, 0)), some (xm_i (nI p)), some (xm_i (nI o)), some (xm_r (9, i, k)), none] [] (c, fi, fl, r) R from go_inr (by decide) (Nat.le_of_ble_eq_true rfl) (key _ rfl)
  intro R hR
  suffices KJ : xm_G E (d + 2) true 42 22 [some (xm_r (2, 0, 0)), some (xm_i (nI p)), some (xm_i (nI o)), some (xm_r (9, i, k)), none] [xm_i (bI (if (bI (sp_40 fi (1 : Int32))) = 0 then false else (if (sp_41 fi (nI p)) = (nI o) then true else false)))] (c, fi, fl, r) R by
    refine pg_42_0 rfl ?_
    refine pg_42_1 ?_
    refine pg_42_2 (sk2 hs) (Nat.le_of_ble_eq_true rfl) (ct_40 (q := (1 : Int32)) hs) ?_
    refine pg_42_5 (fun hc1 => ?_) (fun hc2 => ?_)
    · refine pg_42_21 ?_
      repeat rw [if_pos hc1] at KJ
      repeat rw [if_pos hc1]
      exact KJ
    · refine pg_42_8 rfl ?_
      refine pg_42_9 rfl ?_
      refine pg_42_10 (sk2 hs) (Nat.le_of_ble_eq_true rfl) (ct_41 (x := (nI p)) hs) ?_
      refine pg_42_13 rfl ?_
      refine pg_42_14 (fun hc3 => ?_) (fun hc4 => ?_)
      · refine pg_42_21 ?_
        repeat rw [if_neg hc2] at KJ
        repeat rw [if_neg hc3] at KJ
        repeat rw [if_neg hc2]
        repeat rw [if_neg hc3]
        exact KJ
      · refine pg_42_17 ?_
        refine pg_42_18 ?_
        repeat rw [if_neg hc2] at KJ
        repeat rw [if_pos hc4] at KJ
        repeat rw [if_neg hc2]
        repeat rw [if_pos hc4]
        exact KJ
  refine pg_42_22 (lv' := [some (xm_r (2, 0, 0)), some (xm_i (nI p)), some (xm_i (nI o)), some (xm_r (9, i, k)), some (xm_i (bI (if (bI (sp_40 fi (1 : Int32))) = 0 then false else (if (sp_41 fi (nI p)) = (nI o) then true else false))))]) rfl ?_
  refine pg_42_24 rfl ?_
  refine pg_42_26 (fun hc5 => ?_) (fun hc6 => ?_)
  · exact go_eq (hR.symm.trans (by unfold sp_42; try rw [if_neg hc5]; all_goals rfl)) (pg_42_39)
  · refine pg_42_29 rfl ?_
    refine pg_42_30 rfl ?_
    refine pg_42_31 ?_
    refine pg_42_33 rfl ?_
    refine pg_42_34 ?_
    refine pg_42_35 rfl ?_
    refine pg_42_36 (sk2 hs) (Nat.le_of_ble_eq_true rfl) (ct_39 (p := p) (q := ((8 : Int32) + (nI o))) (i := i) (k := k) (w := w) hs (by omega) hq (by omega) (kp_at (kp_re [500, 900, 1000] fi) (2, 0, 0) 5 rfl hsd)) ?_
    exact go_eq (hR.symm.trans (by unfold sp_42; try rw [if_pos hc6]; all_goals rfl)) (pg_42_39)
