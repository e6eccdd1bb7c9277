/-! Functions and contracts: VotingRounds, a round. Written by wip/whole/prog. -/
theorem sd_38 (fi : FI) (fl : FL) (p : Nat) (q x : Int32) : sp_38 fi fl p q x (2, 0, 0) 5 = nI p := by
  unfold sp_38
  simp [xm_up]
-- 8: isNode
def sp_8 (n : Nat) (x : Int32) : Bool := if x < 0 then (false) else (if (nI n) ≤ x then (false) else (true))
set_option maxRecDepth 4000 in
theorem ct_8 {n : Nat} {E : xm_E} {c : Nat × Nat} {fi : FI} {fl : FL} {r : xm_I → Nat → Option xm_I} {d : Nat} {md : Bool} {x : Int32} (hs : sh n E c r) : xm_C E (d + 1) md 8 [xm_r (0, 0, 0), xm_i x] (c, fi, fl, r) (.inl (some (xm_i (bI (sp_8 n x)))), (c, fi, fl, r)) := by
  have hn := sh_n hs
  suffices key : ∀ R : xm_O, ((.inl (some (xm_i (bI (sp_8 n x)))), (c, fi, fl, r)) : xm_O) = R → xm_G E (d + 0) md 8 0 [some (xm_r (0, 0, 0)), some (xm_i x)] [] (c, fi, fl, r) R from go_inr (by decide) (Nat.le_of_ble_eq_true rfl) (key _ rfl)
  intro R hR
  refine pg_8_0 rfl ?_
  refine pg_8_1 (fun hc1 => ?_) (fun hc2 => ?_)
  · refine pg_8_17 ?_
    exact go_eq (hR.symm.trans (by unfold sp_8; try rw [if_pos hc1]; all_goals rfl)) (pg_8_18 (Or.inl rfl))
  · refine pg_8_4 rfl ?_
    refine pg_8_5 rfl ?_
    refine pg_8_6 (sk0 hs) (sr0_2 hs) ?_
    refine pg_8_9 (Or.inr ⟨(sk6 hs), (Or.inr (Or.inr (Or.inr (by decide))))⟩) ?_
    refine pg_8_10 (fun hc3 => ?_) (fun hc4 => ?_)
    · refine pg_8_17 ?_
      exact go_eq (hR.symm.trans (by unfold sp_8; try rw [if_neg hc2]; try rw [if_pos hc3]; all_goals rfl)) (pg_8_18 (Or.inl rfl))
    · refine pg_8_13 ?_
      refine pg_8_14 ?_
      exact go_eq (hR.symm.trans (by unfold sp_8; try rw [if_neg hc2]; try rw [if_neg hc4]; all_goals rfl)) (pg_8_18 (Or.inr rfl))
-- 10: isGain
def sp_10 (x : Int32) : Bool := if x < 0 then (false) else (if (1048576 : Int32) < x then (false) else (true))
set_option maxRecDepth 4000 in
theorem ct_10 {E : xm_E} {h : xm_H} {d : Nat} {md : Bool} {x : Int32} : xm_C E (d + 1) md 10 [xm_i x] h (.inl (some (xm_i (bI (sp_10 x)))), h) := by
  suffices key : ∀ R : xm_O, ((.inl (some (xm_i (bI (sp_10 x)))), h) : xm_O) = R → xm_G E (d + 0) md 10 0 [some (xm_i x)] [] h R from go_inr (by decide) (Nat.le_of_ble_eq_true rfl) (key _ rfl)
  intro R hR
  refine pg_10_0 rfl ?_
  refine pg_10_1 (fun hc1 => ?_) (fun hc2 => ?_)
  · refine pg_10_14 ?_
    exact go_eq (hR.symm.trans (by unfold sp_10; try rw [if_pos hc1]; all_goals rfl)) (pg_10_15 (Or.inl rfl))
  · refine pg_10_4 rfl ?_
    refine pg_10_5 ?_
    refine pg_10_7 (fun hc3 => ?_) (fun hc4 => ?_)
    · refine pg_10_14 ?_
      exact go_eq (hR.symm.trans (by unfold sp_10; try rw [if_neg hc2]; try rw [if_pos hc3]; all_goals rfl)) (pg_10_15 (Or.inl rfl))
    · refine pg_10_10 ?_
      refine pg_10_11 ?_
      exact go_eq (hR.symm.trans (by unfold sp_10; try rw [if_neg hc2]; try rw [if_neg hc4]; all_goals rfl)) (pg_10_15 (Or.inr rfl))
-- 21: actuator
def sp_21 (n : Nat) : Nat := n
set_option maxRecDepth 4000 in
theorem ct_21 {n : Nat} {E : xm_E} {c : Nat × Nat} {fi : FI} {fl : FL} {r : xm_I → Nat → Option xm_I} {d : Nat} {md : Bool} (hs : sh n E c r) : xm_C E (d + 1) md 21 [xm_r (0, 0, 0)] (c, fi, fl, r) (.inl (some (xm_i (nI (sp_21 n)))), (c, fi, fl, r)) := by
  have hn := sh_n hs
  suffices key : ∀ R : xm_O, ((.inl (some (xm_i (nI (sp_21 n)))), (c, fi, fl, r)) : xm_O) = R → xm_G E (d + 0) md 21 0 [some (xm_r (0, 0, 0))] [] (c, fi, fl, r) R from go_inr (by decide) (Nat.le_of_ble_eq_true rfl) (key _ rfl)
  intro R hR
  refine pg_21_0 rfl ?_
  refine pg_21_1 (sk0 hs) (sr0_2 hs) ?_
  refine pg_21_4 (Or.inr ⟨(sk6 hs), (Or.inr (Or.inr (Or.inr (by decide))))⟩) ?_
  exact go_eq (hR.symm.trans (by unfold sp_21; all_goals rfl)) (pg_21_5)
-- 15: beginRound
def sp_15_20 (n : Nat) (i1 : Nat) (s1 : FI) : FI := (sp_45 n s1 i1)
theorem kp_sp_15_20 (n : Nat) (i1 : Nat) (s1 : FI) : kp [710, 711, 900] s1 (sp_15_20 n i1 s1) := by
  unfold sp_15_20
  exact (kp_tr (kp_re [710, 711, 900] s1) rfl (kp_sp_45 n s1 i1))
def sp_15 (n : Nat) (fi : FI) : FI := (lq_it n (sp_15_20 n) (sp_62 (sp_37 fi (fi (0, 0, 0) 4)) 6 0))
theorem kp_sp_15 (n : Nat) (fi : FI) : kp [204, 710, 711, 900] fi (sp_15 n fi) := by
  unfold sp_15
  exact (kp_tr (kp_tr (kp_tr (kp_re [204, 710, 711, 900] fi) rfl (kp_sp_37 fi (fi (0, 0, 0) 4))) rfl (kp_sp_62 (sp_37 fi (fi (0, 0, 0) 4)) 6 0)) rfl (kp_it (L := [710, 711, 900]) (p := fun (s : FI) => s) (N := n) (F := sp_15_20 n) (s0 := (sp_62 (sp_37 fi (fi (0, 0, 0) 4)) 6 0)) (kp_re [710, 711, 900] (sp_62 (sp_37 fi (fi (0, 0, 0) 4)) 6 0)) (fun i s => kp_sp_15_20 n i s)))
set_option maxRecDepth 4000 in
theorem ct_15 {n : Nat} {E : xm_E} {c : Nat × Nat} {fi : FI} {fl : FL} {r : xm_I → Nat → Option xm_I} {d : Nat} (hs : sh n E c r) (hf : fz n fi) : xm_C E (d + 3) true 15 [xm_r (0, 0, 0)] (c, fi, fl, r) (.inl (none), (c, (sp_15 n fi), fl, r)) := by
  have hn := sh_n hs
  suffices key : ∀ R : xm_O, ((.inl (none), (c, (sp_15 n fi), fl, r)) : xm_O) = R → xm_G E (d + 2) true 15 0 [some (xm_r (0, 0, 0)), none] [] (c, fi, fl, r) R from go_inr (by decide) (Nat.le_of_ble_eq_true rfl) (key _ rfl)
  intro R hR
  refine pg_15_0 rfl ?_
  refine pg_15_1 (sk0 hs) (sr0_1 hs) ?_
  refine pg_15_4 rfl ?_
  refine pg_15_5 (sk0 hs) ?_
  refine pg_15_8 (sk2 hs) (Nat.le_of_ble_eq_true rfl) (ct_37 (x := (fi (0, 0, 0) 4)) hs) ?_
  refine pg_15_11 rfl ?_
  refine pg_15_12 (sk0 hs) (sr0_3 hs) ?_
  refine pg_15_15 (sk9 hs (i := 6) (k := 0) (by show _ ∨ _; omega)) (Nat.le_of_ble_eq_true rfl) (ct_62 (i := 6) (k := 0) hs (by show _ ∨ _; omega)) ?_
  refine pg_15_18 ?_
  refine pg_15_19 (lv' := [some (xm_r (0, 0, 0)), some (xm_i (0 : Int32))]) rfl ?_
  refine (lq_li (N := n) (f := sp_15_20 n) (s0 := (sp_62 (sp_37 fi (fi (0, 0, 0) 4)) 6 0)) (P := fun i1 s1 => xm_G E (d + 2) true 15 20 [some (xm_r (0, 0, 0)), some (xm_i (nI i1))] [] (c, s1, fl, r) R) (I := fun i1 s1 => kp [710, 711, 900] (sp_62 (sp_37 fi (fi (0, 0, 0) 4)) 6 0) s1) (kp_re [710, 711, 900] _) (fun i1 s1 hi1 hk1 => kp_tr hk1 rfl (kp_sp_15_20 n i1 s1)) ?_ ?_)
  · intro i1 s1 hi1 hk1 K1
    show xm_G E (d + 2) true 15 20 [some (xm_r (0, 0, 0)), some (xm_i (nI i1))] [] (c, s1, fl, r) R
    refine pg_15_20 rfl ?_
    refine pg_15_21 rfl ?_
    refine pg_15_22 (sk0 hs) (sr0_2 hs) ?_
    refine pg_15_25 (Or.inr ⟨(sk6 hs), (Or.inr (Or.inr (Or.inr (by decide))))⟩) ?_
    refine pg_15_26 (fun hc => absurd hc (nx_nle (a := i1) (b := n) rfl rfl (by omega) (by omega))) (fun _ => ?_)
    refine pg_15_29 rfl ?_
    refine pg_15_30 (sk0 hs) (sr0_2 hs) ?_
    refine pg_15_33 rfl ?_
    refine pg_15_34 (sk6 hs) (by decide) (i := i1) rfl (by omega) (by omega) (sr6 hs (i := i1) (by omega)) ?_
    refine pg_15_35 (sk7 hs (i := i1) (by omega)) (Nat.le_of_ble_eq_true rfl) (ct_45 (a := i1) hs (by omega) (fz_kp hf (kp_tr (kp_tr (kp_tr (kp_tr (kp_re [204, 710, 711, 900] fi) rfl (kp_sp_37 fi (fi (0, 0, 0) 4))) rfl (kp_sp_62 (sp_37 fi (fi (0, 0, 0) 4)) 6 0)) rfl hk1) rfl (kp_re [710, 711, 900] s1)) rfl rfl rfl)) ?_
    refine pg_15_38 (y := (nI (i1 + 1))) (lv' := [some (xm_r (0, 0, 0)), some (xm_i (nI (i1 + 1)))]) rfl (nI_1 i1) rfl ?_
    refine pg_15_41 ?_
    exact K1 (sp_45 n s1 i1) (by unfold sp_15_20; all_goals rfl)
  · intro hd1x1
    show xm_G E (d + 2) true 15 20 [some (xm_r (0, 0, 0)), some (xm_i (nI n))] [] (c, (lq_it n (sp_15_20 n) (sp_62 (sp_37 fi (fi (0, 0, 0) 4)) 6 0)), fl, r) R
    refine pg_15_20 rfl ?_
    refine pg_15_21 rfl ?_
    refine pg_15_22 (sk0 hs) (sr0_2 hs) ?_
    refine pg_15_25 (Or.inr ⟨(sk6 hs), (Or.inr (Or.inr (Or.inr (by decide))))⟩) ?_
    refine pg_15_26 (fun _ => ?_) (fun hc => absurd (nx_le (a := n) (b := n) rfl rfl (by omega) (by omega)) hc)
    exact go_eq (hR.symm.trans (by unfold sp_15; all_goals rfl)) (pg_15_44)
-- 16: sendValues
def sp_16_31 (i1 : Nat) (i2 : Nat) (s2 : FI) : FI := if (nI i2) = (nI i1) then (s2) else ((sp_39 s2 i2 (0 : Int32) i2 0 i1))
theorem kp_sp_16_31 (i1 : Nat) (i2 : Nat) (s2 : FI) : kp [500, 900, 1000] s2 (sp_16_31 i1 i2 s2) := by
  unfold sp_16_31
  rcases Classical.em ((nI i2) = (nI i1)) with hc | hc
  · (try rw [if_pos hc])
    exact (kp_re [500, 900, 1000] s2)
  · (try rw [if_neg hc])
    exact (kp_tr (kp_re [500, 900, 1000] s2) rfl (kp_sp_39 s2 i2 (0 : Int32) i2 0 i1))
def sp_16_2 (n : Nat) (fl : FL) (i1 : Nat) (s1 : FI) : FI := (lq_it n (sp_16_31 i1) (sp_38 s1 fl i1 (0 : Int32) (s1 (7, i1, 0) 2)))
theorem kp_sp_16_2 (n : Nat) (fl : FL) (i1 : Nat) (s1 : FI) : kp [203, 205, 206, 207, 208, 209, 210, 500, 900, 1000] s1 (sp_16_2 n fl i1 s1) := by
  unfold sp_16_2
  exact (kp_tr (kp_tr (kp_re [203, 205, 206, 207, 208, 209, 210, 500, 900, 1000] s1) rfl (kp_sp_38 s1 fl i1 (0 : Int32) (s1 (7, i1, 0) 2))) rfl (kp_it (L := [500, 900, 1000]) (p := fun (s : FI) => s) (N := n) (F := sp_16_31 i1) (s0 := (sp_38 s1 fl i1 (0 : Int32) (s1 (7, i1, 0) 2))) (kp_re [500, 900, 1000] (sp_38 s1 fl i1 (0 : Int32) (s1 (7, i1, 0) 2))) (fun i s => kp_sp_16_31 i1 i s)))
def sp_16 (n : Nat) (fi : FI) (fl : FL) : FI := (lq_it n (sp_16_2 n fl) fi)
theorem kp_sp_16 (n : Nat) (fi : FI) (fl : FL) : kp [203, 205, 206, 207, 208, 209, 210, 500, 900, 1000] fi (sp_16 n fi fl) := by
  unfold sp_16
  exact (kp_tr (kp_re [203, 205, 206, 207, 208, 209, 210, 500, 900, 1000] fi) rfl (kp_it (L := [203, 205, 206, 207, 208, 209, 210, 500, 900, 1000]) (p := fun (s : FI) => s) (N := n) (F := sp_16_2 n fl) (s0 := fi) (kp_re [203, 205, 206, 207, 208, 209, 210, 500, 900, 1000] fi) (fun i s => kp_sp_16_2 n fl i s)))
set_option maxRecDepth 4000 in
theorem ct_16 {n : Nat} {E : xm_E} {c : Nat × Nat} {fi : FI} {fl : FL} {r : xm_I → Nat → Option xm_I} {d : Nat} (hs : sh n E c r) (hf : fz n fi) : xm_C E (d + 4) true 16 [xm_r (0, 0, 0)] (c, fi, fl, r) (.inl (none), (c, (sp_16 n fi fl), fl, r)) := by
  have hn := sh_n hs
  suffices key : ∀ R : xm_O, ((.inl (none), (c, (sp_16 n fi fl), fl, r)) : xm_O) = R → xm_G E (d + 3) true 16 0 [some (xm_r (0, 0, 0)), none, none] [] (c, fi, fl, r) R from go_inr (by decide) (Nat.le_of_ble_eq_true rfl) (key _ rfl)
  intro R hR
  refine pg_16_0 ?_
  refine pg_16_1 (lv' := [some (xm_r (0, 0, 0)), some (xm_i (0 : Int32)), none]) rfl ?_
  refine (lq_li (N := n) (f := sp_16_2 n fl) (s0 := fi) (P := fun i1 s1 => ∀ u2 : Option xm_V, xm_G E (d + 3) true 16 2 [some (xm_r (0, 0, 0)), some (xm_i (nI i1)), u2] [] (c, s1, fl, r) R) (I := fun i1 s1 => kp [203, 205, 206, 207, 208, 209, 210, 500, 900, 1000] fi s1) (kp_re [203, 205, 206, 207, 208, 209, 210, 500, 900, 1000] _) (fun i1 s1 hi1 hk1 => kp_tr hk1 rfl (kp_sp_16_2 n fl i1 s1)) ?_ ?_) _
  · intro i1 s1 hi1 hk1 K1 u2
    show xm_G E (d + 3) true 16 2 [some (xm_r (0, 0, 0)), some (xm_i (nI i1)), u2] [] (c, s1, fl, r) R
    refine pg_16_2 rfl ?_
    refine pg_16_3 rfl ?_
    refine pg_16_4 (sk0 hs) (sr0_2 hs) ?_
    refine pg_16_7 (Or.inr ⟨(sk6 hs), (Or.inr (Or.inr (Or.inr (by decide))))⟩) ?_
    refine pg_16_8 (fun hc => absurd hc (nx_nle (a := i1) (b := n) rfl rfl (by omega) (by omega))) (fun _ => ?_)
    refine pg_16_11 rfl ?_
    refine pg_16_12 (sk0 hs) (sr0_1 hs) ?_
    refine pg_16_15 rfl ?_
    refine pg_16_16 ?_
    refine pg_16_17 rfl ?_
    refine pg_16_18 (sk0 hs) (sr0_2 hs) ?_
    refine pg_16_21 rfl ?_
    refine pg_16_22 (sk6 hs) (by decide) (i := i1) rfl (by omega) (by omega) (sr6 hs (i := i1) (by omega)) ?_
    refine pg_16_23 (sk7 hs (i := i1) (by omega)) ?_
    refine pg_16_26 (sk2 hs) (Nat.le_of_ble_eq_true rfl) (ct_38 (p := i1) (q := (0 : Int32)) (x := (s1 (7, i1, 0) 2)) hs (by omega)) ?_
    refine pg_16_29 ?_
    refine pg_16_30 (lv' := [some (xm_r (0, 0, 0)), some (xm_i (nI i1)), some (xm_i (0 : Int32))]) rfl ?_
    refine (lq_li (N := n) (f := sp_16_31 i1) (s0 := (sp_38 s1 fl i1 (0 : Int32) (s1 (7, i1, 0) 2))) (P := fun i2 s2 => xm_G E (d + 3) true 16 31 [some (xm_r (0, 0, 0)), some (xm_i (nI i1)), some (xm_i (nI i2))] [] (c, s2, fl, r) R) (I := fun i2 s2 => kp [500, 900, 1000] (sp_38 s1 fl i1 (0 : Int32) (s1 (7, i1, 0) 2)) s2) (kp_re [500, 900, 1000] _) (fun i2 s2 hi2 hk2 => kp_tr hk2 rfl (kp_sp_16_31 i1 i2 s2)) ?_ ?_)
    · intro i2 s2 hi2 hk2 K2
      show xm_G E (d + 3) true 16 31 [some (xm_r (0, 0, 0)), some (xm_i (nI i1)), some (xm_i (nI i2))] [] (c, s2, fl, r) R
      refine pg_16_31 rfl ?_
      refine pg_16_32 rfl ?_
      refine pg_16_33 (sk0 hs) (sr0_2 hs) ?_
      refine pg_16_36 (Or.inr ⟨(sk6 hs), (Or.inr (Or.inr (Or.inr (by decide))))⟩) ?_
      refine pg_16_37 (fun hc => absurd hc (nx_nle (a := i2) (b := n) rfl rfl (by omega) (by omega))) (fun _ => ?_)
      refine pg_16_40 rfl ?_
      refine pg_16_41 rfl ?_
      refine pg_16_42 (fun hc1 => ?_) (fun hc2 => ?_)
      · refine pg_16_63 (y := (nI (i2 + 1))) (lv' := [some (xm_r (0, 0, 0)), some (xm_i (nI i1)), some (xm_i (nI (i2 + 1)))]) rfl (nI_1 i2) rfl ?_
        refine pg_16_66 ?_
        exact K2 s2 (by unfold sp_16_31; try rw [if_pos hc1]; all_goals rfl)
      · refine pg_16_45 rfl ?_
        refine pg_16_46 (sk0 hs) (sr0_1 hs) ?_
        refine pg_16_49 rfl ?_
        refine pg_16_50 ?_
        refine pg_16_51 rfl ?_
        refine pg_16_52 (sk0 hs) (sr0_2 hs) ?_
        refine pg_16_55 rfl ?_
        refine pg_16_56 (sk6 hs) (by decide) (i := i2) rfl (by omega) (by omega) (sr6 hs (i := i2) (by omega)) ?_
        refine pg_16_57 (sk7 hs (i := i2) (by omega)) (sr7_5 hs (i := i2) (by omega)) ?_
        refine pg_16_60 (sk2 hs) (Nat.le_of_ble_eq_true rfl) (ct_39 (p := i2) (q := (0 : Int32)) (i := i2) (k := 0) (w := i1) hs (by omega) (by show _ ∨ _; omega) (by omega) (kp_at (kp_tr hk2 rfl (kp_re [500, 900, 1000] s2)) (2, 0, 0) 5 rfl (sd_38 _ _ _ _ _))) ?_
        refine pg_16_63 (y := (nI (i2 + 1))) (lv' := [some (xm_r (0, 0, 0)), some (xm_i (nI i1)), some (xm_i (nI (i2 + 1)))]) rfl (nI_1 i2) rfl ?_
        refine pg_16_66 ?_
        exact K2 (sp_39 s2 i2 (0 : Int32) i2 0 i1) (by unfold sp_16_31; try rw [if_neg hc2]; all_goals rfl)
    · intro hd2x3
      show xm_G E (d + 3) true 16 31 [some (xm_r (0, 0, 0)), some (xm_i (nI i1)), some (xm_i (nI n))] [] (c, (lq_it n (sp_16_31 i1) (sp_38 s1 fl i1 (0 : Int32) (s1 (7, i1, 0) 2))), fl, r) R
      refine pg_16_31 rfl ?_
      refine pg_16_32 rfl ?_
      refine pg_16_33 (sk0 hs) (sr0_2 hs) ?_
      refine pg_16_36 (Or.inr ⟨(sk6 hs), (Or.inr (Or.inr (Or.inr (by decide))))⟩) ?_
      refine pg_16_37 (fun _ => ?_) (fun hc => absurd (nx_le (a := n) (b := n) rfl rfl (by omega) (by omega)) hc)
      refine pg_16_69 (y := (nI (i1 + 1))) (lv' := [some (xm_r (0, 0, 0)), some (xm_i (nI (i1 + 1))), some (xm_i (nI n))]) rfl (nI_1 i1) rfl ?_
      refine pg_16_72 ?_
      exact K1 (lq_it n (sp_16_31 i1) (sp_38 s1 fl i1 (0 : Int32) (s1 (7, i1, 0) 2))) (by unfold sp_16_2; all_goals rfl) _
  · intro hd1x4 u2
    show xm_G E (d + 3) true 16 2 [some (xm_r (0, 0, 0)), some (xm_i (nI n)), u2] [] (c, (lq_it n (sp_16_2 n fl) fi), fl, r) R
    refine pg_16_2 rfl ?_
    refine pg_16_3 rfl ?_
    refine pg_16_4 (sk0 hs) (sr0_2 hs) ?_
    refine pg_16_7 (Or.inr ⟨(sk6 hs), (Or.inr (Or.inr (Or.inr (by decide))))⟩) ?_
    refine pg_16_8 (fun _ => ?_) (fun hc => absurd (nx_le (a := n) (b := n) rfl rfl (by omega) (by omega)) hc)
    exact go_eq (hR.symm.trans (by unfold sp_16; all_goals rfl)) (pg_16_75)
-- 18: sendRelay
def sp_18_51 (p : Nat) (o : Nat) (i1 : Nat) (s1 : FI) : FI := if (nI i1) = (nI p) then (s1) else ((sp_42 s1 i1 o i1 (6 + o) p))
theorem kp_sp_18_51 (p : Nat) (o : Nat) (i1 : Nat) (s1 : FI) : kp [500, 900, 1000] s1 (sp_18_51 p o i1 s1) := by
  unfold sp_18_51
  rcases Classical.em ((nI i1) = (nI p)) with hc | hc
  · (try rw [if_pos hc])
    exact (kp_re [500, 900, 1000] s1)
  · (try rw [if_neg hc])
    exact (kp_tr (kp_re [500, 900, 1000] s1) rfl (kp_sp_42 s1 i1 o i1 (6 + o) p))
def sp_18 (n : Nat) (fi : FI) (fl : FL) (p : Nat) (o : Nat) : FI := (lq_it n (sp_18_51 p o) (if (bI (sp_64 fi p 0 o)) = 0 then (sp_38 fi fl p (1 : Int32) (nI o)) else (sp_38 fi fl p ((8 : Int32) + (nI o)) (sp_65 fi p 0 o))))
theorem kp_sp_18 (n : Nat) (fi : FI) (fl : FL) (p : Nat) (o : Nat) : kp [203, 205, 206, 207, 208, 209, 210, 500, 900, 1000] fi (sp_18 n fi fl p o) := by
  unfold sp_18
  exact (kp_tr (kp_if (kp_tr (kp_re [203, 205, 206, 207, 208, 209, 210, 500, 900, 1000] fi) rfl (kp_sp_38 fi fl p (1 : Int32) (nI o))) (kp_tr (kp_re [203, 205, 206, 207, 208, 209, 210, 500, 900, 1000] fi) rfl (kp_sp_38 fi fl p ((8 : Int32) + (nI o)) (sp_65 fi p 0 o)))) rfl (kp_it (L := [500, 900, 1000]) (p := fun (s : FI) => s) (N := n) (F := sp_18_51 p o) (s0 := (if (bI (sp_64 fi p 0 o)) = 0 then (sp_38 fi fl p (1 : Int32) (nI o)) else (sp_38 fi fl p ((8 : Int32) + (nI o)) (sp_65 fi p 0 o)))) (kp_re [500, 900, 1000] (if (bI (sp_64 fi p 0 o)) = 0 then (sp_38 fi fl p (1 : Int32) (nI o)) else (sp_38 fi fl p ((8 : Int32) + (nI o)) (sp_65 fi p 0 o)))) (fun i s => kp_sp_18_51 p o i s)))
set_option maxRecDepth 4000 in
theorem ct_18 {n : Nat} {E : xm_E} {c : Nat × Nat} {fi : FI} {fl : FL} {r : xm_I → Nat → Option xm_I} {d : Nat} {p : Nat} {o : Nat} (hs : sh n E c r) (hp : p < n) (ho : o < n) (hf : fz n fi) : xm_C E (d + 4) true 18 [xm_r (0, 0, 0), xm_i (nI p), xm_i (nI o)] (c, fi, fl, r) (.inl (none), (c, (sp_18 n fi fl p o), fl, r)) := by
  have hn := sh_n hs
  suffices key : ∀ R : xm_O, ((.inl (none), (c, (sp_18 n fi fl p o), fl, r)) : xm_O) = R → xm_G E (d + 3) true 18 0 [some (xm_r (0, 0, 0)), some (xm_i (nI p)), some (xm_i (nI o)), none, none] [] (c, fi, fl, r) R from go_inr (by decide) (Nat.le_of_ble_eq_true rfl) (key _ rfl)
  intro R hR
  refine pg_18_0 rfl ?_
  refine pg_18_1 (sk0 hs) (sr0_2 hs) ?_
  refine pg_18_4 rfl ?_
  refine pg_18_5 (sk6 hs) (by decide) (i := p) rfl (by omega) (by omega) (sr6 hs (i := p) (by omega)) ?_
  refine pg_18_6 (sk7 hs (i := p) (by omega)) (sr7_5 hs (i := p) (by omega)) ?_
  refine pg_18_9 (lv' := [some (xm_r (0, 0, 0)), some (xm_i (nI p)), some (xm_i (nI o)), some (xm_r (9, p, 0)), none]) rfl ?_
  suffices KJ : xm_G E (d + 3) true 18 48 [some (xm_r (0, 0, 0)), some (xm_i (nI p)), some (xm_i (nI o)), some (xm_r (9, p, 0)), none] [] (c, (if (bI (sp_64 fi p 0 o)) = 0 then (sp_38 fi fl p (1 : Int32) (nI o)) else (sp_38 fi fl p ((8 : Int32) + (nI o)) (sp_65 fi p 0 o))), fl, r) R by
    refine pg_18_10 rfl ?_
    refine pg_18_11 rfl ?_
    refine pg_18_12 (sk9 hs (i := p) (k := 0) (by show _ ∨ _; omega)) (Nat.le_of_ble_eq_true rfl) (ct_64 (i := p) (k := 0) (p := o) hs (by show _ ∨ _; omega) (by omega)) ?_
    refine pg_18_15 (fun hc1 => ?_) (fun hc2 => ?_)
    · refine pg_18_38 rfl ?_
      refine pg_18_39 (sk0 hs) (sr0_1 hs) ?_
      refine pg_18_42 rfl ?_
      refine pg_18_43 ?_
      refine pg_18_44 rfl ?_
      refine pg_18_45 (sk2 hs) (Nat.le_of_ble_eq_true rfl) (ct_38 (p := p) (q := (1 : Int32)) (x := (nI o)) hs (by omega)) ?_
      repeat rw [if_pos hc1] at KJ
      repeat rw [if_pos hc1]
      exact KJ
    · refine pg_18_18 rfl ?_
      refine pg_18_19 (sk0 hs) (sr0_1 hs) ?_
      refine pg_18_22 rfl ?_
      refine pg_18_23 ?_
      refine pg_18_25 rfl ?_
      refine pg_18_26 ?_
      refine pg_18_27 rfl ?_
      refine pg_18_28 rfl ?_
      refine pg_18_29 (sk9 hs (i := p) (k := 0) (by show _ ∨ _; omega)) (Nat.le_of_ble_eq_true rfl) (ct_65 (i := p) (k := 0) (p := o) hs (by show _ ∨ _; omega) (by omega)) ?_
      refine pg_18_32 (sk2 hs) (Nat.le_of_ble_eq_true rfl) (ct_38 (p := p) (q := ((8 : Int32) + (nI o))) (x := (sp_65 fi p 0 o)) hs (by omega)) ?_
      refine pg_18_35 ?_
      repeat rw [if_neg hc2] at KJ
      repeat rw [if_neg hc2]
      exact KJ
  refine pg_18_48 ?_
  refine pg_18_49 (lv' := [some (xm_r (0, 0, 0)), some (xm_i (nI p)), some (xm_i (nI o)), some (xm_r (9, p, 0)), some (xm_i (0 : Int32))]) rfl ?_
  refine (lq_li (N := n) (f := sp_18_51 p o) (s0 := (if (bI (sp_64 fi p 0 o)) = 0 then (sp_38 fi fl p (1 : Int32) (nI o)) else (sp_38 fi fl p ((8 : Int32) + (nI o)) (sp_65 fi p 0 o)))) (P := fun i1 s1 => xm_G E (d + 3) true 18 51 [some (xm_r (0, 0, 0)), some (xm_i (nI p)), some (xm_i (nI o)), some (xm_r (9, p, 0)), some (xm_i (nI i1))] [] (c, s1, fl, r) R) (I := fun i1 s1 => kp [500, 900, 1000] (if (bI (sp_64 fi p 0 o)) = 0 then (sp_38 fi fl p (1 : Int32) (nI o)) else (sp_38 fi fl p ((8 : Int32) + (nI o)) (sp_65 fi p 0 o))) s1) (kp_re [500, 900, 1000] _) (fun i1 s1 hi1 hk1 => kp_tr hk1 rfl (kp_sp_18_51 p o i1 s1)) ?_ ?_)
  · intro i1 s1 hi1 hk1 K1
    show xm_G E (d + 3) true 18 51 [some (xm_r (0, 0, 0)), some (xm_i (nI p)), some (xm_i (nI o)), some (xm_r (9, p, 0)), some (xm_i (nI i1))] [] (c, s1, fl, r) R
    refine pg_18_51 rfl ?_
    refine pg_18_53 rfl ?_
    refine pg_18_54 (sk0 hs) (sr0_2 hs) ?_
    refine pg_18_57 (Or.inr ⟨(sk6 hs), (Or.inr (Or.inr (Or.inr (by decide))))⟩) ?_
    refine pg_18_58 (fun hc => absurd hc (nx_nle (a := i1) (b := n) rfl rfl (by omega) (by omega))) (fun _ => ?_)
    refine pg_18_61 rfl ?_
    refine pg_18_63 rfl ?_
    refine pg_18_64 (fun hc3 => ?_) (fun hc4 => ?_)
    · refine pg_18_89 (y := (nI (i1 + 1))) (lv' := [some (xm_r (0, 0, 0)), some (xm_i (nI p)), some (xm_i (nI o)), some (xm_r (9, p, 0)), some (xm_i (nI (i1 + 1)))]) rfl (nI_1 i1) rfl ?_
      refine pg_18_92 ?_
      exact K1 s1 (by unfold sp_18_51; try rw [if_pos hc3]; all_goals rfl)
    · refine pg_18_67 rfl ?_
      refine pg_18_68 (sk0 hs) (sr0_1 hs) ?_
      refine pg_18_71 rfl ?_
      refine pg_18_73 rfl ?_
      refine pg_18_74 rfl ?_
      refine pg_18_75 (sk0 hs) (sr0_2 hs) ?_
      refine pg_18_78 rfl ?_
      refine pg_18_80 (sk6 hs) (by decide) (i := i1) rfl (by omega) (by omega) (sr6 hs (i := i1) (by omega)) ?_
      refine pg_18_81 (sk7 hs (i := i1) (by omega)) (sr7_6 hs (i := i1) (by omega)) ?_
      refine pg_18_84 rfl ?_
      refine pg_18_85 (sk11 hs (i := i1) (by omega)) (by decide) (i := o) rfl (by omega) (by omega) (sr11 hs (i := i1) (k := o) (by omega) (by omega)) ?_
      refine pg_18_86 (sk2 hs) (Nat.le_of_ble_eq_true rfl) (ct_42 (p := i1) (o := o) (i := i1) (k := 6 + o) (w := p) hs (by omega) (by show _ ∨ _; omega) (by omega) (kp_at (kp_tr hk1 rfl (kp_re [500, 900, 1000] s1)) (2, 0, 0) 5 rfl (by split <;> exact sd_38 _ _ _ _ _))) ?_
      refine pg_18_89 (y := (nI (i1 + 1))) (lv' := [some (xm_r (0, 0, 0)), some (xm_i (nI p)), some (xm_i (nI o)), some (xm_r (9, p, 0)), some (xm_i (nI (i1 + 1)))]) rfl (nI_1 i1) rfl ?_
      refine pg_18_92 ?_
      exact K1 (sp_42 s1 i1 o i1 (6 + o) p) (by unfold sp_18_51; try rw [if_neg hc4]; all_goals rfl)
  · intro hd1x5
    show xm_G E (d + 3) true 18 51 [some (xm_r (0, 0, 0)), some (xm_i (nI p)), some (xm_i (nI o)), some (xm_r (9, p, 0)), some (xm_i (nI n))] [] (c, (lq_it n (sp_18_51 p o) (if (bI (sp_64 fi p 0 o)) = 0 then (sp_38 fi fl p (1 : Int32) (nI o)) else (sp_38 fi fl p ((8 : Int32) + (nI o)) (sp_65 fi p 0 o)))), fl, r) R
    refine pg_18_51 rfl ?_
    refine pg_18_53 rfl ?_
    refine pg_18_54 (sk0 hs) (sr0_2 hs) ?_
    refine pg_18_57 (Or.inr ⟨(sk6 hs), (Or.inr (Or.inr (Or.inr (by decide))))⟩) ?_
    refine pg_18_58 (fun _ => ?_) (fun hc => absurd (nx_le (a := n) (b := n) rfl rfl (by omega) (by omega)) hc)
    exact go_eq (hR.symm.trans (by unfold sp_18; all_goals rfl)) (pg_18_95)
-- 17: sendRelays
def sp_17_13 (n : Nat) (fl : FL) (i1 : Nat) (i2 : Nat) (s2 : FI) : FI := if (nI i2) = (nI i1) then (s2) else (if (s2 (7, i1, 0) 3) = 0 then ((sp_18 n s2 fl i1 i2)) else (s2))
theorem kp_sp_17_13 (n : Nat) (fl : FL) (i1 : Nat) (i2 : Nat) (s2 : FI) : kp [203, 205, 206, 207, 208, 209, 210, 500, 900, 1000] s2 (sp_17_13 n fl i1 i2 s2) := by
  unfold sp_17_13
  rcases Classical.em ((nI i2) = (nI i1)) with hc | hc
  · (try rw [if_pos hc])
    exact (kp_re [203, 205, 206, 207, 208, 209, 210, 500, 900, 1000] s2)
  · (try rw [if_neg hc])
    rcases Classical.em ((s2 (7, i1, 0) 3) = 0) with hc | hc
    · (try rw [if_pos hc])
      exact (kp_tr (kp_re [203, 205, 206, 207, 208, 209, 210, 500, 900, 1000] s2) rfl (kp_sp_18 n s2 fl i1 i2))
    · (try rw [if_neg hc])
      exact (kp_re [203, 205, 206, 207, 208, 209, 210, 500, 900, 1000] s2)
def sp_17_2 (n : Nat) (fl : FL) (i1 : Nat) (s1 : FI) : FI := (lq_it n (sp_17_13 n fl i1) s1)
theorem kp_sp_17_2 (n : Nat) (fl : FL) (i1 : Nat) (s1 : FI) : kp [203, 205, 206, 207, 208, 209, 210, 500, 900, 1000] s1 (sp_17_2 n fl i1 s1) := by
  unfold sp_17_2
  exact (kp_tr (kp_re [203, 205, 206, 207, 208, 209, 210, 500, 900, 1000] s1) rfl (kp_it (L := [203, 205, 206, 207, 208, 209, 210, 500, 900, 1000]) (p := fun (s : FI) => s) (N := n) (F := sp_17_13 n fl i1) (s0 := s1) (kp_re [203, 205, 206, 207, 208, 209, 210, 500, 900, 1000] s1) (fun i s => kp_sp_17_13 n fl i1 i s)))
def sp_17 (n : Nat) (fi : FI) (fl : FL) : FI := (lq_it n (sp_17_2 n fl) fi)
theorem kp_sp_17 (n : Nat) (fi : FI) (fl : FL) : kp [203, 205, 206, 207, 208, 209, 210, 500, 900, 1000] fi (sp_17 n fi fl) := by
  unfold sp_17
  exact (kp_tr (kp_re [203, 205, 206, 207, 208, 209, 210, 500, 900, 1000] fi) rfl (kp_it (L := [203, 205, 206, 207, 208, 209, 210, 500, 900, 1000]) (p := fun (s : FI) => s) (N := n) (F := sp_17_2 n fl) (s0 := fi) (kp_re [203, 205, 206, 207, 208, 209, 210, 500, 900, 1000] fi) (fun i s => kp_sp_17_2 n fl i s)))
set_option maxRecDepth 4000 in
theorem ct_17 {n : Nat} {E : xm_E} {c : Nat × Nat} {fi : FI} {fl : FL} {r : xm_I → Nat → Option xm_I} {d : Nat} (hs : sh n E c r) (hf : fz n fi) : xm_C E (d + 5) true 17 [xm_r (0, 0, 0)] (c, fi, fl, r) (.inl (none), (c, (sp_17 n fi fl), fl, r)) := by
  have hn := sh_n hs
  suffices key : ∀ R : xm_O, ((.inl (none), (c, (sp_17 n fi fl), fl, r)) : xm_O) = R → xm_G E (d + 4) true 17 0 [some (xm_r (0, 0, 0)), none, none] [] (c, fi, fl, r) R from go_inr (by decide) (Nat.le_of_ble_eq_true rfl) (key _ rfl)
  intro R hR
  refine pg_17_0 ?_
  refine pg_17_1 (lv' := [some (xm_r (0, 0, 0)), some (xm_i (0 : Int32)), none]) rfl ?_
  refine (lq_li (N := n) (f := sp_17_2 n fl) (s0 := fi) (P := fun i1 s1 => ∀ u2 : Option xm_V, xm_G E (d + 4) true 17 2 [some (xm_r (0, 0, 0)), some (xm_i (nI i1)), u2] [] (c, s1, fl, r) R) (I := fun i1 s1 => kp [203, 205, 206, 207, 208, 209, 210, 500, 900, 1000] fi s1) (kp_re [203, 205, 206, 207, 208, 209, 210, 500, 900, 1000] _) (fun i1 s1 hi1 hk1 => kp_tr hk1 rfl (kp_sp_17_2 n fl i1 s1)) ?_ ?_) _
  · intro i1 s1 hi1 hk1 K1 u2
    show xm_G E (d + 4) true 17 2 [some (xm_r (0, 0, 0)), some (xm_i (nI i1)), u2] [] (c, s1, fl, r) R
    refine pg_17_2 rfl ?_
    refine pg_17_3 rfl ?_
    refine pg_17_4 (sk0 hs) (sr0_2 hs) ?_
    refine pg_17_7 (Or.inr ⟨(sk6 hs), (Or.inr (Or.inr (Or.inr (by decide))))⟩) ?_
    refine pg_17_8 (fun hc => absurd hc (nx_nle (a := i1) (b := n) rfl rfl (by omega) (by omega))) (fun _ => ?_)
    refine pg_17_11 ?_
    refine pg_17_12 (lv' := [some (xm_r (0, 0, 0)), some (xm_i (nI i1)), some (xm_i (0 : Int32))]) rfl ?_
    refine (lq_li (N := n) (f := sp_17_13 n fl i1) (s0 := s1) (P := fun i2 s2 => xm_G E (d + 4) true 17 13 [some (xm_r (0, 0, 0)), some (xm_i (nI i1)), some (xm_i (nI i2))] [] (c, s2, fl, r) R) (I := fun i2 s2 => kp [203, 205, 206, 207, 208, 209, 210, 500, 900, 1000] s1 s2) (kp_re [203, 205, 206, 207, 208, 209, 210, 500, 900, 1000] _) (fun i2 s2 hi2 hk2 => kp_tr hk2 rfl (kp_sp_17_13 n fl i1 i2 s2)) ?_ ?_)
    · intro i2 s2 hi2 hk2 K2
      show xm_G E (d + 4) true 17 13 [some (xm_r (0, 0, 0)), some (xm_i (nI i1)), some (xm_i (nI i2))] [] (c, s2, fl, r) R
      refine pg_17_13 rfl ?_
      refine pg_17_14 rfl ?_
      refine pg_17_15 (sk0 hs) (sr0_2 hs) ?_
      refine pg_17_18 (Or.inr ⟨(sk6 hs), (Or.inr (Or.inr (Or.inr (by decide))))⟩) ?_
      refine pg_17_19 (fun hc => absurd hc (nx_nle (a := i2) (b := n) rfl rfl (by omega) (by omega))) (fun _ => ?_)
      refine pg_17_22 rfl ?_
      refine pg_17_23 rfl ?_
      refine pg_17_24 (fun hc1 => ?_) (fun hc2 => ?_)
      · refine pg_17_45 (y := (nI (i2 + 1))) (lv' := [some (xm_r (0, 0, 0)), some (xm_i (nI i1)), some (xm_i (nI (i2 + 1)))]) rfl (nI_1 i2) rfl ?_
        refine pg_17_48 ?_
        exact K2 s2 (by unfold sp_17_13; try rw [if_pos hc1]; all_goals rfl)
      · refine pg_17_27 rfl ?_
        refine pg_17_28 (sk0 hs) (sr0_2 hs) ?_
        refine pg_17_31 rfl ?_
        refine pg_17_32 (sk6 hs) (by decide) (i := i1) rfl (by omega) (by omega) (sr6 hs (i := i1) (by omega)) ?_
        refine pg_17_33 (sk7 hs (i := i1) (by omega)) ?_
        refine pg_17_36 (fun hc3 => ?_) (fun hc4 => ?_)
        · refine pg_17_45 (y := (nI (i2 + 1))) (lv' := [some (xm_r (0, 0, 0)), some (xm_i (nI i1)), some (xm_i (nI (i2 + 1)))]) rfl (nI_1 i2) rfl ?_
          refine pg_17_48 ?_
          exact K2 s2 (by unfold sp_17_13; try rw [if_neg hc2]; try rw [if_neg hc3]; all_goals rfl)
        · refine pg_17_39 rfl ?_
          refine pg_17_40 rfl ?_
          refine pg_17_41 rfl ?_
          refine pg_17_42 (sk0 hs) (Nat.le_of_ble_eq_true rfl) (ct_18 (p := i1) (o := i2) hs (by omega) (by omega) (fz_kp hf (kp_tr (kp_tr (kp_re [203, 205, 206, 207, 208, 209, 210, 500, 900, 1000] fi) rfl hk1) rfl (kp_tr (kp_tr (kp_re [203, 205, 206, 207, 208, 209, 210, 500, 900, 1000] s1) rfl hk2) rfl (kp_re [203, 205, 206, 207, 208, 209, 210, 500, 900, 1000] s2))) rfl rfl rfl)) ?_
          refine pg_17_45 (y := (nI (i2 + 1))) (lv' := [some (xm_r (0, 0, 0)), some (xm_i (nI i1)), some (xm_i (nI (i2 + 1)))]) rfl (nI_1 i2) rfl ?_
          refine pg_17_48 ?_
          exact K2 (sp_18 n s2 fl i1 i2) (by unfold sp_17_13; try rw [if_neg hc2]; try rw [if_pos hc4]; all_goals rfl)
    · intro hd2x5
      show xm_G E (d + 4) true 17 13 [some (xm_r (0, 0, 0)), some (xm_i (nI i1)), some (xm_i (nI n))] [] (c, (lq_it n (sp_17_13 n fl i1) s1), fl, r) R
      refine pg_17_13 rfl ?_
      refine pg_17_14 rfl ?_
      refine pg_17_15 (sk0 hs) (sr0_2 hs) ?_
      refine pg_17_18 (Or.inr ⟨(sk6 hs), (Or.inr (Or.inr (Or.inr (by decide))))⟩) ?_
      refine pg_17_19 (fun _ => ?_) (fun hc => absurd (nx_le (a := n) (b := n) rfl rfl (by omega) (by omega)) hc)
      refine pg_17_51 (y := (nI (i1 + 1))) (lv' := [some (xm_r (0, 0, 0)), some (xm_i (nI (i1 + 1))), some (xm_i (nI n))]) rfl (nI_1 i1) rfl ?_
      refine pg_17_54 ?_
      exact K1 (lq_it n (sp_17_13 n fl i1) s1) (by unfold sp_17_2; all_goals rfl) _
  · intro hd1x6 u2
    show xm_G E (d + 4) true 17 2 [some (xm_r (0, 0, 0)), some (xm_i (nI n)), u2] [] (c, (lq_it n (sp_17_2 n fl) fi), fl, r) R
    refine pg_17_2 rfl ?_
    refine pg_17_3 rfl ?_
    refine pg_17_4 (sk0 hs) (sr0_2 hs) ?_
    refine pg_17_7 (Or.inr ⟨(sk6 hs), (Or.inr (Or.inr (Or.inr (by decide))))⟩) ?_
    refine pg_17_8 (fun _ => ?_) (fun hc => absurd (nx_le (a := n) (b := n) rfl rfl (by omega) (by omega)) hc)
    exact go_eq (hR.symm.trans (by unfold sp_17; all_goals rfl)) (pg_17_57)
-- 20: sendCommands
def sp_20_2 (n : Nat) (fl : FL) (i1 : Nat) (s1 : FI) : FI := if (s1 (7, i1, 0) 11) = 0 then (s1) else ((sp_39 (sp_38 s1 fl i1 (3 : Int32) (s1 (7, i1, 0) 12)) (sp_21 n) (3 : Int32) 6 0 i1))
theorem kp_sp_20_2 (n : Nat) (fl : FL) (i1 : Nat) (s1 : FI) : kp [203, 205, 206, 207, 208, 209, 210, 500, 900, 1000] s1 (sp_20_2 n fl i1 s1) := by
  unfold sp_20_2
  rcases Classical.em ((s1 (7, i1, 0) 11) = 0) with hc | hc
  · (try rw [if_pos hc])
    exact (kp_re [203, 205, 206, 207, 208, 209, 210, 500, 900, 1000] s1)
  · (try rw [if_neg hc])
    exact (kp_tr (kp_tr (kp_re [203, 205, 206, 207, 208, 209, 210, 500, 900, 1000] s1) rfl (kp_sp_38 s1 fl i1 (3 : Int32) (s1 (7, i1, 0) 12))) rfl (kp_sp_39 (sp_38 s1 fl i1 (3 : Int32) (s1 (7, i1, 0) 12)) (sp_21 n) (3 : Int32) 6 0 i1))
def sp_20 (n : Nat) (fi : FI) (fl : FL) : FI := (lq_it n (sp_20_2 n fl) fi)
theorem kp_sp_20 (n : Nat) (fi : FI) (fl : FL) : kp [203, 205, 206, 207, 208, 209, 210, 500, 900, 1000] fi (sp_20 n fi fl) := by
  unfold sp_20
  exact (kp_tr (kp_re [203, 205, 206, 207, 208, 209, 210, 500, 900, 1000] fi) rfl (kp_it (L := [203, 205, 206, 207, 208, 209, 210, 500, 900, 1000]) (p := fun (s : FI) => s) (N := n) (F := sp_20_2 n fl) (s0 := fi) (kp_re [203, 205, 206, 207, 208, 209, 210, 500, 900, 1000] fi) (fun i s => kp_sp_20_2 n fl i s)))
set_option maxRecDepth 4000 in
theorem ct_20 {n : Nat} {E : xm_E} {c : Nat × Nat} {fi : FI} {fl : FL} {r : xm_I → Nat → Option xm_I} {d : Nat} (hs : sh n E c r) (hf : fz n fi) : xm_C E (d + 4) true 20 [xm_r (0, 0, 0)] (c, fi, fl, r) (.inl (none), (c, (sp_20 n fi fl), fl, r)) := by
  have hn := sh_n hs
  suffices key : ∀ R : xm_O, ((.inl (none), (c, (sp_20 n fi fl), fl, r)) : xm_O) = R → xm_G E (d + 3) true 20 0 [some (xm_r (0, 0, 0)), none] [] (c, fi, fl, r) R from go_inr (by decide) (Nat.le_of_ble_eq_true rfl) (key _ rfl)
  intro R hR
  refine pg_20_0 ?_
  refine pg_20_1 (lv' := [some (xm_r (0, 0, 0)), some (xm_i (0 : Int32))]) rfl ?_
  refine (lq_li (N := n) (f := sp_20_2 n fl) (s0 := fi) (P := fun i1 s1 => xm_G E (d + 3) true 20 2 [some (xm_r (0, 0, 0)), some (xm_i (nI i1))] [] (c, s1, fl, r) R) (I := fun i1 s1 => kp [203, 205, 206, 207, 208, 209, 210, 500, 900, 1000] fi s1) (kp_re [203, 205, 206, 207, 208, 209, 210, 500, 900, 1000] _) (fun i1 s1 hi1 hk1 => kp_tr hk1 rfl (kp_sp_20_2 n fl i1 s1)) ?_ ?_)
  · intro i1 s1 hi1 hk1 K1
    show xm_G E (d + 3) true 20 2 [some (xm_r (0, 0, 0)), some (xm_i (nI i1))] [] (c, s1, fl, r) R
    refine pg_20_2 rfl ?_
    refine pg_20_3 rfl ?_
    refine pg_20_4 (sk0 hs) (sr0_2 hs) ?_
    refine pg_20_7 (Or.inr ⟨(sk6 hs), (Or.inr (Or.inr (Or.inr (by decide))))⟩) ?_
    refine pg_20_8 (fun hc => absurd hc (nx_nle (a := i1) (b := n) rfl rfl (by omega) (by omega))) (fun _ => ?_)
    refine pg_20_11 rfl ?_
    refine pg_20_12 (sk0 hs) (sr0_2 hs) ?_
    refine pg_20_15 rfl ?_
    refine pg_20_16 (sk6 hs) (by decide) (i := i1) rfl (by omega) (by omega) (sr6 hs (i := i1) (by omega)) ?_
    refine pg_20_17 (sk7 hs (i := i1) (by omega)) ?_
    refine pg_20_20 (fun hc1 => ?_) (fun hc2 => ?_)
    · refine pg_20_57 (y := (nI (i1 + 1))) (lv' := [some (xm_r (0, 0, 0)), some (xm_i (nI (i1 + 1)))]) rfl (nI_1 i1) rfl ?_
      refine pg_20_60 ?_
      exact K1 s1 (by unfold sp_20_2; try rw [if_pos hc1]; all_goals rfl)
    · refine pg_20_23 rfl ?_
      refine pg_20_24 (sk0 hs) (sr0_1 hs) ?_
      refine pg_20_27 rfl ?_
      refine pg_20_28 ?_
      refine pg_20_29 rfl ?_
      refine pg_20_30 (sk0 hs) (sr0_2 hs) ?_
      refine pg_20_33 rfl ?_
      refine pg_20_34 (sk6 hs) (by decide) (i := i1) rfl (by omega) (by omega) (sr6 hs (i := i1) (by omega)) ?_
      refine pg_20_35 (sk7 hs (i := i1) (by omega)) ?_
      refine pg_20_38 (sk2 hs) (Nat.le_of_ble_eq_true rfl) (ct_38 (p := i1) (q := (3 : Int32)) (x := (s1 (7, i1, 0) 12)) hs (by omega)) ?_
      refine pg_20_41 rfl ?_
      refine pg_20_42 (sk0 hs) (sr0_1 hs) ?_
      refine pg_20_45 rfl ?_
      refine pg_20_46 (sk0 hs) (Nat.le_of_ble_eq_true rfl) (ct_21  hs) ?_
      refine pg_20_49 ?_
      refine pg_20_50 rfl ?_
      refine pg_20_51 (sk0 hs) (sr0_3 hs) ?_
      refine pg_20_54 (sk2 hs) (Nat.le_of_ble_eq_true rfl) (ct_39 (p := (sp_21 n)) (q := (3 : Int32)) (i := 6) (k := 0) (w := i1) hs (by show n < n + 1; omega) (by show _ ∨ _; omega) (by omega) (sd_38 _ _ _ _ _)) ?_
      refine pg_20_57 (y := (nI (i1 + 1))) (lv' := [some (xm_r (0, 0, 0)), some (xm_i (nI (i1 + 1)))]) rfl (nI_1 i1) rfl ?_
      refine pg_20_60 ?_
      exact K1 (sp_39 (sp_38 s1 fl i1 (3 : Int32) (s1 (7, i1, 0) 12)) (sp_21 n) (3 : Int32) 6 0 i1) (by unfold sp_20_2; try rw [if_neg hc2]; all_goals rfl)
  · intro hd1x3
    show xm_G E (d + 3) true 20 2 [some (xm_r (0, 0, 0)), some (xm_i (nI n))] [] (c, (lq_it n (sp_20_2 n fl) fi), fl, r) R
    refine pg_20_2 rfl ?_
    refine pg_20_3 rfl ?_
    refine pg_20_4 (sk0 hs) (sr0_2 hs) ?_
    refine pg_20_7 (Or.inr ⟨(sk6 hs), (Or.inr (Or.inr (Or.inr (by decide))))⟩) ?_
    refine pg_20_8 (fun _ => ?_) (fun hc => absurd (nx_le (a := n) (b := n) rfl rfl (by omega) (by omega)) hc)
    exact go_eq (hR.symm.trans (by unfold sp_20; all_goals rfl)) (pg_20_63)
-- 22: movePosition
def sp_22 (n : Nat) (fi : FI) : FI := if (sp_66 n fi 6 0 (sp_1 (nI n))) = (-1 : Int32) then ((xm_up (xm_up fi (0, 0, 0) 5 (0 : Int32)) (0, 0, 0) 6 ((fi (0, 0, 0) 6) + (1 : Int32)))) else ((xm_up fi (0, 0, 0) 5 (sp_65 fi 6 0 ((sp_66 n fi 6 0 (sp_1 (nI n))).toNatClampNeg))))
theorem kp_sp_22 (n : Nat) (fi : FI) : kp [5, 6] fi (sp_22 n fi) := by
  unfold sp_22
  rcases Classical.em ((sp_66 n fi 6 0 (sp_1 (nI n))) = (-1 : Int32)) with hc | hc
  · (try rw [if_pos hc])
    exact (kp_up (kp_up (kp_re [5, 6] fi) rfl) rfl)
  · (try rw [if_neg hc])
    exact (kp_up (kp_re [5, 6] fi) rfl)
set_option maxRecDepth 4000 in
theorem ct_22 {n : Nat} {E : xm_E} {c : Nat × Nat} {fi : FI} {fl : FL} {r : xm_I → Nat → Option xm_I} {d : Nat} (hs : sh n E c r) : xm_C E (d + 3) true 22 [xm_r (0, 0, 0)] (c, fi, fl, r) (.inl (none), (c, (sp_22 n fi), fl, r)) := by
  have hn := sh_n hs
  suffices key : ∀ R : xm_O, ((.inl (none), (c, (sp_22 n fi), fl, r)) : xm_O) = R → xm_G E (d + 2) true 22 0 [some (xm_r (0, 0, 0)), none] [] (c, fi, fl, r) R from go_inr (by decide) (Nat.le_of_ble_eq_true rfl) (key _ rfl)
  intro R hR
  refine pg_22_0 rfl ?_
  refine pg_22_1 (sk0 hs) (sr0_3 hs) ?_
  refine pg_22_4 rfl ?_
  refine pg_22_5 (sk0 hs) (sr0_2 hs) ?_
  refine pg_22_8 (Or.inr ⟨(sk6 hs), (Or.inr (Or.inr (Or.inr (by decide))))⟩) ?_
  refine pg_22_9 (Nat.le_of_ble_eq_true rfl) (ct_1 (x := (nI n))) ?_
  refine pg_22_12 (sk9 hs (i := 6) (k := 0) (by show _ ∨ _; omega)) (Nat.le_of_ble_eq_true rfl) (ct_66 (i := 6) (k := 0) (v := (sp_1 (nI n))) hs (by show _ ∨ _; omega)) ?_
  refine pg_22_15 (lv' := [some (xm_r (0, 0, 0)), some (xm_i (sp_66 n fi 6 0 (sp_1 (nI n))))]) rfl ?_
  refine pg_22_16 rfl ?_
  refine pg_22_17 ?_
  refine pg_22_18 (fun hc1 => ?_) (fun hc2 => ?_)
  · refine pg_22_39 rfl ?_
    refine pg_22_40 rfl ?_
    refine pg_22_41 (sk0 hs) (sr0_3 hs) ?_
    refine pg_22_44 rfl ?_
    have hpm := pm_66 hc1 (by omega)
    refine go_top (y := nI (sp_66 n fi 6 0 (sp_1 (nI n))).toNatClampNeg) hpm.1 ?_
    refine pg_22_45 (sk9 hs (i := 6) (k := 0) (by show _ ∨ _; omega)) (Nat.le_of_ble_eq_true rfl) (ct_65 (i := 6) (k := 0) (p := (sp_66 n fi 6 0 (sp_1 (nI n))).toNatClampNeg) hs (by show _ ∨ _; omega) (by omega)) ?_
    refine pg_22_48 (sk0 hs) ?_
    exact go_eq (hR.symm.trans (by unfold sp_22; try rw [if_neg hc1]; all_goals rfl)) (pg_22_51)
  · refine pg_22_21 rfl ?_
    refine pg_22_22 ?_
    refine pg_22_23 (sk0 hs) ?_
    refine pg_22_26 rfl ?_
    refine pg_22_27 rfl ?_
    refine pg_22_28 (sk0 hs) ?_
    refine go_top (y := (fi (0, 0, 0) 6)) (by simp [xm_up]) ?_
    refine pg_22_31 ?_
    refine pg_22_32 ?_
    refine pg_22_33 (sk0 hs) ?_
    refine pg_22_36 ?_
    exact go_eq (hR.symm.trans (by unfold sp_22; try rw [if_pos hc2]; all_goals rfl)) (pg_22_51)
-- 24: sendState
def sp_24_24 (p : Nat) (o : Nat) (i1 : Nat) (s1 : FI) : FI := if (nI i1) = (nI p) then (s1) else ((sp_39 s1 i1 ((4 : Int32) + (nI o)) i1 (2 + o) p))
theorem kp_sp_24_24 (p : Nat) (o : Nat) (i1 : Nat) (s1 : FI) : kp [500, 900, 1000] s1 (sp_24_24 p o i1 s1) := by
  unfold sp_24_24
  rcases Classical.em ((nI i1) = (nI p)) with hc | hc
  · (try rw [if_pos hc])
    exact (kp_re [500, 900, 1000] s1)
  · (try rw [if_neg hc])
    exact (kp_tr (kp_re [500, 900, 1000] s1) rfl (kp_sp_39 s1 i1 ((4 : Int32) + (nI o)) i1 (2 + o) p))
def sp_24 (n : Nat) (fi : FI) (fl : FL) (p : Nat) (o : Nat) : FI := (lq_it n (sp_24_24 p o) (sp_38 fi fl p ((4 : Int32) + (nI o)) (fi (8, p, 0) o)))
theorem kp_sp_24 (n : Nat) (fi : FI) (fl : FL) (p : Nat) (o : Nat) : kp [203, 205, 206, 207, 208, 209, 210, 500, 900, 1000] fi (sp_24 n fi fl p o) := by
  unfold sp_24
  exact (kp_tr (kp_tr (kp_re [203, 205, 206, 207, 208, 209, 210, 500, 900, 1000] fi) rfl (kp_sp_38 fi fl p ((4 : Int32) + (nI o)) (fi (8, p, 0) o))) rfl (kp_it (L := [500, 900, 1000]) (p := fun (s : FI) => s) (N := n) (F := sp_24_24 p o) (s0 := (sp_38 fi fl p ((4 : Int32) + (nI o)) (fi (8, p, 0) o))) (kp_re [500, 900, 1000] (sp_38 fi fl p ((4 : Int32) + (nI o)) (fi (8, p, 0) o))) (fun i s => kp_sp_24_24 p o i s)))
set_option maxRecDepth 4000 in
theorem ct_24 {n : Nat} {E : xm_E} {c : Nat × Nat} {fi : FI} {fl : FL} {r : xm_I → Nat → Option xm_I} {d : Nat} {p : Nat} {o : Nat} (hs : sh n E c r) (hp : p < n) (ho : o < 4) (hf : fz n fi) : xm_C E (d + 4) true 24 [xm_r (0, 0, 0), xm_i (nI p), xm_i (nI o)] (c, fi, fl, r) (.inl (none), (c, (sp_24 n fi fl p o), fl, r)) := by
  have hn := sh_n hs
  suffices key : ∀ R : xm_O, ((.inl (none), (c, (sp_24 n fi fl p o), fl, r)) : xm_O) = R → xm_G E (d + 3) true 24 0 [some (xm_r (0, 0, 0)), some (xm_i (nI p)), some (xm_i (nI o)), none] [] (c, fi, fl, r) R from go_inr (by decide) (Nat.le_of_ble_eq_true rfl) (key _ rfl)
  intro R hR
  refine pg_24_0 rfl ?_
  refine pg_24_1 (sk0 hs) (sr0_1 hs) ?_
  refine pg_24_4 rfl ?_
  refine pg_24_5 ?_
  refine pg_24_6 rfl ?_
  refine pg_24_7 ?_
  refine pg_24_8 rfl ?_
  refine pg_24_9 (sk0 hs) (sr0_2 hs) ?_
  refine pg_24_12 rfl ?_
  refine pg_24_13 (sk6 hs) (by decide) (i := p) rfl (by omega) (by omega) (sr6 hs (i := p) (by omega)) ?_
  refine pg_24_14 (sk7 hs (i := p) (by omega)) (sr7_4 hs (i := p) (by omega)) ?_
  refine pg_24_17 rfl ?_
  refine pg_24_18 (Or.inl (sk8 hs (i := p) (by omega))) (i := o) rfl (by omega) (by omega) ?_
  refine pg_24_19 (sk2 hs) (Nat.le_of_ble_eq_true rfl) (ct_38 (p := p) (q := ((4 : Int32) + (nI o))) (x := (fi (8, p, 0) o)) hs (by omega)) ?_
  refine pg_24_22 ?_
  refine pg_24_23 (lv' := [some (xm_r (0, 0, 0)), some (xm_i (nI p)), some (xm_i (nI o)), some (xm_i (0 : Int32))]) rfl ?_
  refine (lq_li (N := n) (f := sp_24_24 p o) (s0 := (sp_38 fi fl p ((4 : Int32) + (nI o)) (fi (8, p, 0) o))) (P := fun i1 s1 => xm_G E (d + 3) true 24 24 [some (xm_r (0, 0, 0)), some (xm_i (nI p)), some (xm_i (nI o)), some (xm_i (nI i1))] [] (c, s1, fl, r) R) (I := fun i1 s1 => kp [500, 900, 1000] (sp_38 fi fl p ((4 : Int32) + (nI o)) (fi (8, p, 0) o)) s1) (kp_re [500, 900, 1000] _) (fun i1 s1 hi1 hk1 => kp_tr hk1 rfl (kp_sp_24_24 p o i1 s1)) ?_ ?_)
  · intro i1 s1 hi1 hk1 K1
    show xm_G E (d + 3) true 24 24 [some (xm_r (0, 0, 0)), some (xm_i (nI p)), some (xm_i (nI o)), some (xm_i (nI i1))] [] (c, s1, fl, r) R
    refine pg_24_24 rfl ?_
    refine pg_24_25 rfl ?_
    refine pg_24_26 (sk0 hs) (sr0_2 hs) ?_
    refine pg_24_29 (Or.inr ⟨(sk6 hs), (Or.inr (Or.inr (Or.inr (by decide))))⟩) ?_
    refine pg_24_30 (fun hc => absurd hc (nx_nle (a := i1) (b := n) rfl rfl (by omega) (by omega))) (fun _ => ?_)
    refine pg_24_33 rfl ?_
    refine pg_24_34 rfl ?_
    refine pg_24_35 (fun hc1 => ?_) (fun hc2 => ?_)
    · refine pg_24_60 (y := (nI (i1 + 1))) (lv' := [some (xm_r (0, 0, 0)), some (xm_i (nI p)), some (xm_i (nI o)), some (xm_i (nI (i1 + 1)))]) rfl (nI_1 i1) rfl ?_
      refine pg_24_63 ?_
      exact K1 s1 (by unfold sp_24_24; try rw [if_pos hc1]; all_goals rfl)
    · refine pg_24_38 rfl ?_
      refine pg_24_39 (sk0 hs) (sr0_1 hs) ?_
      refine pg_24_42 rfl ?_
      refine pg_24_43 ?_
      refine pg_24_44 rfl ?_
      refine pg_24_45 ?_
      refine pg_24_46 rfl ?_
      refine pg_24_47 (sk0 hs) (sr0_2 hs) ?_
      refine pg_24_50 rfl ?_
      refine pg_24_51 (sk6 hs) (by decide) (i := i1) rfl (by omega) (by omega) (sr6 hs (i := i1) (by omega)) ?_
      refine pg_24_52 (sk7 hs (i := i1) (by omega)) (sr7_7 hs (i := i1) (by omega)) ?_
      refine pg_24_55 rfl ?_
      refine pg_24_56 (sk12 hs (i := i1) (by omega)) (by decide) (i := o) rfl (by omega) (by omega) (sr12 hs (i := i1) (k := o) (by omega) (by omega)) ?_
      refine pg_24_57 (sk2 hs) (Nat.le_of_ble_eq_true rfl) (ct_39 (p := i1) (q := ((4 : Int32) + (nI o))) (i := i1) (k := 2 + o) (w := p) hs (by omega) (by show _ ∨ _; omega) (by omega) (kp_at (kp_tr hk1 rfl (kp_re [500, 900, 1000] s1)) (2, 0, 0) 5 rfl (sd_38 _ _ _ _ _))) ?_
      refine pg_24_60 (y := (nI (i1 + 1))) (lv' := [some (xm_r (0, 0, 0)), some (xm_i (nI p)), some (xm_i (nI o)), some (xm_i (nI (i1 + 1)))]) rfl (nI_1 i1) rfl ?_
      refine pg_24_63 ?_
      exact K1 (sp_39 s1 i1 ((4 : Int32) + (nI o)) i1 (2 + o) p) (by unfold sp_24_24; try rw [if_neg hc2]; all_goals rfl)
  · intro hd1x3
    show xm_G E (d + 3) true 24 24 [some (xm_r (0, 0, 0)), some (xm_i (nI p)), some (xm_i (nI o)), some (xm_i (nI n))] [] (c, (lq_it n (sp_24_24 p o) (sp_38 fi fl p ((4 : Int32) + (nI o)) (fi (8, p, 0) o))), fl, r) R
    refine pg_24_24 rfl ?_
    refine pg_24_25 rfl ?_
    refine pg_24_26 (sk0 hs) (sr0_2 hs) ?_
    refine pg_24_29 (Or.inr ⟨(sk6 hs), (Or.inr (Or.inr (Or.inr (by decide))))⟩) ?_
    refine pg_24_30 (fun _ => ?_) (fun hc => absurd (nx_le (a := n) (b := n) rfl rfl (by omega) (by omega)) hc)
    exact go_eq (hR.symm.trans (by unfold sp_24; all_goals rfl)) (pg_24_66)
-- 23: sendStates
def sp_23_13 (n : Nat) (fl : FL) (i1 : Nat) (i2 : Nat) (s2 : FI) : FI := if (s2 (7, i1, 0) 3) = 0 then ((sp_24 n s2 fl i1 i2)) else (s2)
theorem kp_sp_23_13 (n : Nat) (fl : FL) (i1 : Nat) (i2 : Nat) (s2 : FI) : kp [203, 205, 206, 207, 208, 209, 210, 500, 900, 1000] s2 (sp_23_13 n fl i1 i2 s2) := by
  unfold sp_23_13
  rcases Classical.em ((s2 (7, i1, 0) 3) = 0) with hc | hc
  · (try rw [if_pos hc])
    exact (kp_tr (kp_re [203, 205, 206, 207, 208, 209, 210, 500, 900, 1000] s2) rfl (kp_sp_24 n s2 fl i1 i2))
  · (try rw [if_neg hc])
    exact (kp_re [203, 205, 206, 207, 208, 209, 210, 500, 900, 1000] s2)
def sp_23_2 (n : Nat) (fl : FL) (i1 : Nat) (s1 : FI) : FI := (lq_it 4 (sp_23_13 n fl i1) s1)
theorem kp_sp_23_2 (n : Nat) (fl : FL) (i1 : Nat) (s1 : FI) : kp [203, 205, 206, 207, 208, 209, 210, 500, 900, 1000] s1 (sp_23_2 n fl i1 s1) := by
  unfold sp_23_2
  exact (kp_tr (kp_re [203, 205, 206, 207, 208, 209, 210, 500, 900, 1000] s1) rfl (kp_it (L := [203, 205, 206, 207, 208, 209, 210, 500, 900, 1000]) (p := fun (s : FI) => s) (N := 4) (F := sp_23_13 n fl i1) (s0 := s1) (kp_re [203, 205, 206, 207, 208, 209, 210, 500, 900, 1000] s1) (fun i s => kp_sp_23_13 n fl i1 i s)))
def sp_23 (n : Nat) (fi : FI) (fl : FL) : FI := (lq_it n (sp_23_2 n fl) fi)
theorem kp_sp_23 (n : Nat) (fi : FI) (fl : FL) : kp [203, 205, 206, 207, 208, 209, 210, 500, 900, 1000] fi (sp_23 n fi fl) := by
  unfold sp_23
  exact (kp_tr (kp_re [203, 205, 206, 207, 208, 209, 210, 500, 900, 1000] fi) rfl (kp_it (L := [203, 205, 206, 207, 208, 209, 210, 500, 900, 1000]) (p := fun (s : FI) => s) (N := n) (F := sp_23_2 n fl) (s0 := fi) (kp_re [203, 205, 206, 207, 208, 209, 210, 500, 900, 1000] fi) (fun i s => kp_sp_23_2 n fl i s)))
set_option maxRecDepth 4000 in
theorem ct_23 {n : Nat} {E : xm_E} {c : Nat × Nat} {fi : FI} {fl : FL} {r : xm_I → Nat → Option xm_I} {d : Nat} (hs : sh n E c r) (hf : fz n fi) : xm_C E (d + 5) true 23 [xm_r (0, 0, 0)] (c, fi, fl, r) (.inl (none), (c, (sp_23 n fi fl), fl, r)) := by
  have hn := sh_n hs
  suffices key : ∀ R : xm_O, ((.inl (none), (c, (sp_23 n fi fl), fl, r)) : xm_O) = R → xm_G E (d + 4) true 23 0 [some (xm_r (0, 0, 0)), none, none] [] (c, fi, fl, r) R from go_inr (by decide) (Nat.le_of_ble_eq_true rfl) (key _ rfl)
  intro R hR
  refine pg_23_0 ?_
  refine pg_23_1 (lv' := [some (xm_r (0, 0, 0)), some (xm_i (0 : Int32)), none]) rfl ?_
  refine (lq_li (N := n) (f := sp_23_2 n fl) (s0 := fi) (P := fun i1 s1 => ∀ u2 : Option xm_V, xm_G E (d + 4) true 23 2 [some (xm_r (0, 0, 0)), some (xm_i (nI i1)), u2] [] (c, s1, fl, r) R) (I := fun i1 s1 => kp [203, 205, 206, 207, 208, 209, 210, 500, 900, 1000] fi s1) (kp_re [203, 205, 206, 207, 208, 209, 210, 500, 900, 1000] _) (fun i1 s1 hi1 hk1 => kp_tr hk1 rfl (kp_sp_23_2 n fl i1 s1)) ?_ ?_) _
  · intro i1 s1 hi1 hk1 K1 u2
    show xm_G E (d + 4) true 23 2 [some (xm_r (0, 0, 0)), some (xm_i (nI i1)), u2] [] (c, s1, fl, r) R
    refine pg_23_2 rfl ?_
    refine pg_23_3 rfl ?_
    refine pg_23_4 (sk0 hs) (sr0_2 hs) ?_
    refine pg_23_7 (Or.inr ⟨(sk6 hs), (Or.inr (Or.inr (Or.inr (by decide))))⟩) ?_
    refine pg_23_8 (fun hc => absurd hc (nx_nle (a := i1) (b := n) rfl rfl (by omega) (by omega))) (fun _ => ?_)
    refine pg_23_11 ?_
    refine pg_23_12 (lv' := [some (xm_r (0, 0, 0)), some (xm_i (nI i1)), some (xm_i (0 : Int32))]) rfl ?_
    refine (lq_li (N := 4) (f := sp_23_13 n fl i1) (s0 := s1) (P := fun i2 s2 => xm_G E (d + 4) true 23 13 [some (xm_r (0, 0, 0)), some (xm_i (nI i1)), some (xm_i (nI i2))] [] (c, s2, fl, r) R) (I := fun i2 s2 => kp [203, 205, 206, 207, 208, 209, 210, 500, 900, 1000] s1 s2) (kp_re [203, 205, 206, 207, 208, 209, 210, 500, 900, 1000] _) (fun i2 s2 hi2 hk2 => kp_tr hk2 rfl (kp_sp_23_13 n fl i1 i2 s2)) ?_ ?_)
    · intro i2 s2 hi2 hk2 K2
      show xm_G E (d + 4) true 23 13 [some (xm_r (0, 0, 0)), some (xm_i (nI i1)), some (xm_i (nI i2))] [] (c, s2, fl, r) R
      refine pg_23_13 rfl ?_
      refine pg_23_14 ?_
      refine pg_23_15 (fun hc => absurd hc (nx_nle (a := i2) (b := 4) rfl (rfl : (4 : Int32) = nI 4) (by omega) (by omega))) (fun _ => ?_)
      refine pg_23_18 rfl ?_
      refine pg_23_19 (sk0 hs) (sr0_2 hs) ?_
      refine pg_23_22 rfl ?_
      refine pg_23_23 (sk6 hs) (by decide) (i := i1) rfl (by omega) (by omega) (sr6 hs (i := i1) (by omega)) ?_
      refine pg_23_24 (sk7 hs (i := i1) (by omega)) ?_
      refine pg_23_27 (fun hc1 => ?_) (fun hc2 => ?_)
      · refine pg_23_36 (y := (nI (i2 + 1))) (lv' := [some (xm_r (0, 0, 0)), some (xm_i (nI i1)), some (xm_i (nI (i2 + 1)))]) rfl (nI_1 i2) rfl ?_
        refine pg_23_39 ?_
        exact K2 s2 (by unfold sp_23_13; try rw [if_neg hc1]; all_goals rfl)
      · refine pg_23_30 rfl ?_
        refine pg_23_31 rfl ?_
        refine pg_23_32 rfl ?_
        refine pg_23_33 (sk0 hs) (Nat.le_of_ble_eq_true rfl) (ct_24 (p := i1) (o := i2) hs (by omega) (by omega) (fz_kp hf (kp_tr (kp_tr (kp_re [203, 205, 206, 207, 208, 209, 210, 500, 900, 1000] fi) rfl hk1) rfl (kp_tr (kp_tr (kp_re [203, 205, 206, 207, 208, 209, 210, 500, 900, 1000] s1) rfl hk2) rfl (kp_re [203, 205, 206, 207, 208, 209, 210, 500, 900, 1000] s2))) rfl rfl rfl)) ?_
        refine pg_23_36 (y := (nI (i2 + 1))) (lv' := [some (xm_r (0, 0, 0)), some (xm_i (nI i1)), some (xm_i (nI (i2 + 1)))]) rfl (nI_1 i2) rfl ?_
        refine pg_23_39 ?_
        exact K2 (sp_24 n s2 fl i1 i2) (by unfold sp_23_13; try rw [if_pos hc2]; all_goals rfl)
    · intro hd2x3
      show xm_G E (d + 4) true 23 13 [some (xm_r (0, 0, 0)), some (xm_i (nI i1)), some (xm_i (nI 4))] [] (c, (lq_it 4 (sp_23_13 n fl i1) s1), fl, r) R
      refine pg_23_13 rfl ?_
      refine pg_23_14 ?_
      refine pg_23_15 (fun _ => ?_) (fun hc => absurd (nx_le (a := 4) (b := 4) rfl (rfl : (4 : Int32) = nI 4) (by omega) (by omega)) hc)
      refine pg_23_42 (y := (nI (i1 + 1))) (lv' := [some (xm_r (0, 0, 0)), some (xm_i (nI (i1 + 1))), some (xm_i (nI 4))]) rfl (nI_1 i1) rfl ?_
      refine pg_23_45 ?_
      exact K1 (lq_it 4 (sp_23_13 n fl i1) s1) (by unfold sp_23_2; all_goals rfl) _
  · intro hd1x4 u2
    show xm_G E (d + 4) true 23 2 [some (xm_r (0, 0, 0)), some (xm_i (nI n)), u2] [] (c, (lq_it n (sp_23_2 n fl) fi), fl, r) R
    refine pg_23_2 rfl ?_
    refine pg_23_3 rfl ?_
    refine pg_23_4 (sk0 hs) (sr0_2 hs) ?_
    refine pg_23_7 (Or.inr ⟨(sk6 hs), (Or.inr (Or.inr (Or.inr (by decide))))⟩) ?_
    refine pg_23_8 (fun _ => ?_) (fun hc => absurd (nx_le (a := n) (b := n) rfl rfl (by omega) (by omega)) hc)
    exact go_eq (hR.symm.trans (by unfold sp_23; all_goals rfl)) (pg_23_48)
-- 14: runRound
def sp_14_14 (n : Nat) (fl : FL) (i1 : Nat) (s1 : FI) : FI := if (s1 (7, i1, 0) 3) = 0 then ((sp_46 n s1 fl i1)) else (s1)
theorem kp_sp_14_14 (n : Nat) (fl : FL) (i1 : Nat) (s1 : FI) : kp [711, 712, 800, 900, 1000, 1300] s1 (sp_14_14 n fl i1 s1) := by
  unfold sp_14_14
  rcases Classical.em ((s1 (7, i1, 0) 3) = 0) with hc | hc
  · (try rw [if_pos hc])
    exact (kp_tr (kp_re [711, 712, 800, 900, 1000, 1300] s1) rfl (kp_sp_46 n s1 fl i1))
  · (try rw [if_neg hc])
    exact (kp_re [711, 712, 800, 900, 1000, 1300] s1)
def sp_14_68 (n : Nat) (i1 : Nat) (s1 : FI) : FI := (sp_55 n s1 i1)
theorem kp_sp_14_68 (n : Nat) (i1 : Nat) (s1 : FI) : kp [703, 800, 900, 1000] s1 (sp_14_68 n i1 s1) := by
  unfold sp_14_68
  exact (kp_tr (kp_re [703, 800, 900, 1000] s1) rfl (kp_sp_55 n s1 i1))
def sp_14 (n : Nat) (fi : FI) (fl : FL) : FI := (xm_up (lq_it n (sp_14_68 n) (sp_23 n (sp_22 n (sp_20 n (lq_it n (sp_14_14 n fl) (sp_17 n (sp_16 n (sp_15 n fi) fl) fl)) fl)) fl)) (0, 0, 0) 4 (((lq_it n (sp_14_68 n) (sp_23 n (sp_22 n (sp_20 n (lq_it n (sp_14_14 n fl) (sp_17 n (sp_16 n (sp_15 n fi) fl) fl)) fl)) fl)) (0, 0, 0) 4) + (1 : Int32)))
theorem kp_sp_14 (n : Nat) (fi : FI) (fl : FL) : kp [4, 5, 6, 203, 204, 205, 206, 207, 208, 209, 210, 500, 703, 710, 711, 712, 800, 900, 1000, 1300] fi (sp_14 n fi fl) := by
  unfold sp_14
  exact (kp_up (kp_tr (kp_tr (kp_tr (kp_tr (kp_tr (kp_tr (kp_tr (kp_tr (kp_re [4, 5, 6, 203, 204, 205, 206, 207, 208, 209, 210, 500, 703, 710, 711, 712, 800, 900, 1000, 1300] fi) rfl (kp_sp_15 n fi)) rfl (kp_sp_16 n (sp_15 n fi) fl)) rfl (kp_sp_17 n (sp_16 n (sp_15 n fi) fl) fl)) rfl (kp_it (L := [711, 712, 800, 900, 1000, 1300]) (p := fun (s : FI) => s) (N := n) (F := sp_14_14 n fl) (s0 := (sp_17 n (sp_16 n (sp_15 n fi) fl) fl)) (kp_re [711, 712, 800, 900, 1000, 1300] (sp_17 n (sp_16 n (sp_15 n fi) fl) fl)) (fun i s => kp_sp_14_14 n fl i s))) rfl (kp_sp_20 n (lq_it n (sp_14_14 n fl) (sp_17 n (sp_16 n (sp_15 n fi) fl) fl)) fl)) rfl (kp_sp_22 n (sp_20 n (lq_it n (sp_14_14 n fl) (sp_17 n (sp_16 n (sp_15 n fi) fl) fl)) fl))) rfl (kp_sp_23 n (sp_22 n (sp_20 n (lq_it n (sp_14_14 n fl) (sp_17 n (sp_16 n (sp_15 n fi) fl) fl)) fl)) fl)) rfl (kp_it (L := [703, 800, 900, 1000]) (p := fun (s : FI) => s) (N := n) (F := sp_14_68 n) (s0 := (sp_23 n (sp_22 n (sp_20 n (lq_it n (sp_14_14 n fl) (sp_17 n (sp_16 n (sp_15 n fi) fl) fl)) fl)) fl)) (kp_re [703, 800, 900, 1000] (sp_23 n (sp_22 n (sp_20 n (lq_it n (sp_14_14 n fl) (sp_17 n (sp_16 n (sp_15 n fi) fl) fl)) fl)) fl)) (fun i s => kp_sp_14_68 n i s))) rfl)
set_option maxRecDepth 4000 in
theorem ct_14 {n : Nat} {E : xm_E} {c : Nat × Nat} {fi : FI} {fl : FL} {r : xm_I → Nat → Option xm_I} {d : Nat} (hs : sh n E c r) (hf : fz n fi) : xm_C E (d + 6) true 14 [xm_r (0, 0, 0)] (c, fi, fl, r) (.inl (none), (c, (sp_14 n fi fl), fl, r)) := by
  have hn := sh_n hs
  suffices key : ∀ R : xm_O, ((.inl (none), (c, (sp_14 n fi fl), fl, r)) : xm_O) = R → xm_G E (d + 5) true 14 0 [some (xm_r (0, 0, 0)), none] [] (c, fi, fl, r) R from go_inr (by decide) (Nat.le_of_ble_eq_true rfl) (key _ rfl)
  intro R hR
  refine pg_14_0 rfl ?_
  refine pg_14_1 (sk0 hs) (Nat.le_of_ble_eq_true rfl) (ct_15  hs (fz_kp hf (kp_re [4, 5, 6, 203, 204, 205, 206, 207, 208, 209, 210, 500, 703, 710, 711, 712, 800, 900, 1000, 1300] fi) rfl rfl rfl)) ?_
  refine pg_14_4 rfl ?_
  refine pg_14_5 (sk0 hs) (Nat.le_of_ble_eq_true rfl) (ct_16  hs (fz_kp hf (kp_tr (kp_re [4, 5, 6, 203, 204, 205, 206, 207, 208, 209, 210, 500, 703, 710, 711, 712, 800, 900, 1000, 1300] fi) rfl (kp_sp_15 n fi)) rfl rfl rfl)) ?_
  refine pg_14_8 rfl ?_
  refine pg_14_9 (sk0 hs) (Nat.le_of_ble_eq_true rfl) (ct_17  hs (fz_kp hf (kp_tr (kp_tr (kp_re [4, 5, 6, 203, 204, 205, 206, 207, 208, 209, 210, 500, 703, 710, 711, 712, 800, 900, 1000, 1300] fi) rfl (kp_sp_15 n fi)) rfl (kp_sp_16 n (sp_15 n fi) fl)) rfl rfl rfl)) ?_
  refine pg_14_12 ?_
  refine pg_14_13 (lv' := [some (xm_r (0, 0, 0)), some (xm_i (0 : Int32))]) rfl ?_
  refine (lq_li (N := n) (f := sp_14_14 n fl) (s0 := (sp_17 n (sp_16 n (sp_15 n fi) fl) fl)) (P := fun i1 s1 => xm_G E (d + 5) true 14 14 [some (xm_r (0, 0, 0)), some (xm_i (nI i1))] [] (c, s1, fl, r) R) (I := fun i1 s1 => kp [711, 712, 800, 900, 1000, 1300] (sp_17 n (sp_16 n (sp_15 n fi) fl) fl) s1) (kp_re [711, 712, 800, 900, 1000, 1300] _) (fun i1 s1 hi1 hk1 => kp_tr hk1 rfl (kp_sp_14_14 n fl i1 s1)) ?_ ?_)
  · intro i1 s1 hi1 hk1 K1
    show xm_G E (d + 5) true 14 14 [some (xm_r (0, 0, 0)), some (xm_i (nI i1))] [] (c, s1, fl, r) R
    refine pg_14_14 rfl ?_
    refine pg_14_15 rfl ?_
    refine pg_14_16 (sk0 hs) (sr0_2 hs) ?_
    refine pg_14_19 (Or.inr ⟨(sk6 hs), (Or.inr (Or.inr (Or.inr (by decide))))⟩) ?_
    refine pg_14_20 (fun hc => absurd hc (nx_nle (a := i1) (b := n) rfl rfl (by omega) (by omega))) (fun _ => ?_)
    refine pg_14_23 rfl ?_
    refine pg_14_24 (sk0 hs) (sr0_2 hs) ?_
    refine pg_14_27 rfl ?_
    refine pg_14_28 (sk6 hs) (by decide) (i := i1) rfl (by omega) (by omega) (sr6 hs (i := i1) (by omega)) ?_
    refine pg_14_29 (sk7 hs (i := i1) (by omega)) ?_
    refine pg_14_32 (fun hc1 => ?_) (fun hc2 => ?_)
    · refine pg_14_48 (y := (nI (i1 + 1))) (lv' := [some (xm_r (0, 0, 0)), some (xm_i (nI (i1 + 1)))]) rfl (nI_1 i1) rfl ?_
      refine pg_14_51 ?_
      exact K1 s1 (by unfold sp_14_14; try rw [if_neg hc1]; all_goals rfl)
    · refine pg_14_35 rfl ?_
      refine pg_14_36 (sk0 hs) (sr0_2 hs) ?_
      refine pg_14_39 rfl ?_
      refine pg_14_40 (sk6 hs) (by decide) (i := i1) rfl (by omega) (by omega) (sr6 hs (i := i1) (by omega)) ?_
      refine pg_14_41 rfl ?_
      refine pg_14_42 (sk0 hs) (sr0_0 hs) ?_
      refine pg_14_45 (sk7 hs (i := i1) (by omega)) (Nat.le_of_ble_eq_true rfl) (ct_46 (a := i1) hs (by omega) (fz_kp hf (kp_tr (kp_tr (kp_tr (kp_tr (kp_tr (kp_re [4, 5, 6, 203, 204, 205, 206, 207, 208, 209, 210, 500, 703, 710, 711, 712, 800, 900, 1000, 1300] fi) rfl (kp_sp_15 n fi)) rfl (kp_sp_16 n (sp_15 n fi) fl)) rfl (kp_sp_17 n (sp_16 n (sp_15 n fi) fl) fl)) rfl hk1) rfl (kp_re [711, 712, 800, 900, 1000, 1300] s1)) rfl rfl rfl)) ?_
      refine pg_14_48 (y := (nI (i1 + 1))) (lv' := [some (xm_r (0, 0, 0)), some (xm_i (nI (i1 + 1)))]) rfl (nI_1 i1) rfl ?_
      refine pg_14_51 ?_
      exact K1 (sp_46 n s1 fl i1) (by unfold sp_14_14; try rw [if_pos hc2]; all_goals rfl)
  · intro hd1x3
    show xm_G E (d + 5) true 14 14 [some (xm_r (0, 0, 0)), some (xm_i (nI n))] [] (c, (lq_it n (sp_14_14 n fl) (sp_17 n (sp_16 n (sp_15 n fi) fl) fl)), fl, r) R
    refine pg_14_14 rfl ?_
    refine pg_14_15 rfl ?_
    refine pg_14_16 (sk0 hs) (sr0_2 hs) ?_
    refine pg_14_19 (Or.inr ⟨(sk6 hs), (Or.inr (Or.inr (Or.inr (by decide))))⟩) ?_
    refine pg_14_20 (fun _ => ?_) (fun hc => absurd (nx_le (a := n) (b := n) rfl rfl (by omega) (by omega)) hc)
    refine pg_14_54 rfl ?_
    refine pg_14_55 (sk0 hs) (Nat.le_of_ble_eq_true rfl) (ct_20  hs (fz_kp hf (kp_tr (kp_tr (kp_tr (kp_tr (kp_re [4, 5, 6, 203, 204, 205, 206, 207, 208, 209, 210, 500, 703, 710, 711, 712, 800, 900, 1000, 1300] fi) rfl (kp_sp_15 n fi)) rfl (kp_sp_16 n (sp_15 n fi) fl)) rfl (kp_sp_17 n (sp_16 n (sp_15 n fi) fl) fl)) rfl (kp_it (L := [711, 712, 800, 900, 1000, 1300]) (p := fun (s : FI) => s) (N := n) (F := sp_14_14 n fl) (s0 := (sp_17 n (sp_16 n (sp_15 n fi) fl) fl)) (kp_re [711, 712, 800, 900, 1000, 1300] (sp_17 n (sp_16 n (sp_15 n fi) fl) fl)) (fun i s => kp_sp_14_14 n fl i s))) rfl rfl rfl)) ?_
    refine pg_14_58 rfl ?_
    refine pg_14_59 (sk0 hs) (Nat.le_of_ble_eq_true rfl) (ct_22  hs) ?_
    refine pg_14_62 rfl ?_
    refine pg_14_63 (sk0 hs) (Nat.le_of_ble_eq_true rfl) (ct_23  hs (fz_kp hf (kp_tr (kp_tr (kp_tr (kp_tr (kp_tr (kp_tr (kp_re [4, 5, 6, 203, 204, 205, 206, 207, 208, 209, 210, 500, 703, 710, 711, 712, 800, 900, 1000, 1300] fi) rfl (kp_sp_15 n fi)) rfl (kp_sp_16 n (sp_15 n fi) fl)) rfl (kp_sp_17 n (sp_16 n (sp_15 n fi) fl) fl)) rfl (kp_it (L := [711, 712, 800, 900, 1000, 1300]) (p := fun (s : FI) => s) (N := n) (F := sp_14_14 n fl) (s0 := (sp_17 n (sp_16 n (sp_15 n fi) fl) fl)) (kp_re [711, 712, 800, 900, 1000, 1300] (sp_17 n (sp_16 n (sp_15 n fi) fl) fl)) (fun i s => kp_sp_14_14 n fl i s))) rfl (kp_sp_20 n (lq_it n (sp_14_14 n fl) (sp_17 n (sp_16 n (sp_15 n fi) fl) fl)) fl)) rfl (kp_sp_22 n (sp_20 n (lq_it n (sp_14_14 n fl) (sp_17 n (sp_16 n (sp_15 n fi) fl) fl)) fl))) rfl rfl rfl)) ?_
    refine pg_14_66 ?_
    refine pg_14_67 (lv' := [some (xm_r (0, 0, 0)), some (xm_i (0 : Int32))]) rfl ?_
    refine (lq_li (N := n) (f := sp_14_68 n) (s0 := (sp_23 n (sp_22 n (sp_20 n (lq_it n (sp_14_14 n fl) (sp_17 n (sp_16 n (sp_15 n fi) fl) fl)) fl)) fl)) (P := fun i1 s1 => xm_G E (d + 5) true 14 68 [some (xm_r (0, 0, 0)), some (xm_i (nI i1))] [] (c, s1, fl, r) R) (I := fun i1 s1 => kp [703, 800, 900, 1000] (sp_23 n (sp_22 n (sp_20 n (lq_it n (sp_14_14 n fl) (sp_17 n (sp_16 n (sp_15 n fi) fl) fl)) fl)) fl) s1) (kp_re [703, 800, 900, 1000] _) (fun i1 s1 hi1 hk1 => kp_tr hk1 rfl (kp_sp_14_68 n i1 s1)) ?_ ?_)
    · intro i1 s1 hi1 hk1 K1
      show xm_G E (d + 5) true 14 68 [some (xm_r (0, 0, 0)), some (xm_i (nI i1))] [] (c, s1, fl, r) R
      refine pg_14_68 rfl ?_
      refine pg_14_69 rfl ?_
      refine pg_14_70 (sk0 hs) (sr0_2 hs) ?_
      refine pg_14_73 (Or.inr ⟨(sk6 hs), (Or.inr (Or.inr (Or.inr (by decide))))⟩) ?_
      refine pg_14_74 (fun hc => absurd hc (nx_nle (a := i1) (b := n) rfl rfl (by omega) (by omega))) (fun _ => ?_)
      refine pg_14_77 rfl ?_
      refine pg_14_78 (sk0 hs) (sr0_2 hs) ?_
      refine pg_14_81 rfl ?_
      refine pg_14_82 (sk6 hs) (by decide) (i := i1) rfl (by omega) (by omega) (sr6 hs (i := i1) (by omega)) ?_
      refine pg_14_83 (sk7 hs (i := i1) (by omega)) (Nat.le_of_ble_eq_true rfl) (ct_55 (a := i1) hs (by omega) (fz_kp hf (kp_tr (kp_tr (kp_tr (kp_tr (kp_tr (kp_tr (kp_tr (kp_tr (kp_tr (kp_re [4, 5, 6, 203, 204, 205, 206, 207, 208, 209, 210, 500, 703, 710, 711, 712, 800, 900, 1000, 1300] fi) rfl (kp_sp_15 n fi)) rfl (kp_sp_16 n (sp_15 n fi) fl)) rfl (kp_sp_17 n (sp_16 n (sp_15 n fi) fl) fl)) rfl (kp_it (L := [711, 712, 800, 900, 1000, 1300]) (p := fun (s : FI) => s) (N := n) (F := sp_14_14 n fl) (s0 := (sp_17 n (sp_16 n (sp_15 n fi) fl) fl)) (kp_re [711, 712, 800, 900, 1000, 1300] (sp_17 n (sp_16 n (sp_15 n fi) fl) fl)) (fun i s => kp_sp_14_14 n fl i s))) rfl (kp_sp_20 n (lq_it n (sp_14_14 n fl) (sp_17 n (sp_16 n (sp_15 n fi) fl) fl)) fl)) rfl (kp_sp_22 n (sp_20 n (lq_it n (sp_14_14 n fl) (sp_17 n (sp_16 n (sp_15 n fi) fl) fl)) fl))) rfl (kp_sp_23 n (sp_22 n (sp_20 n (lq_it n (sp_14_14 n fl) (sp_17 n (sp_16 n (sp_15 n fi) fl) fl)) fl)) fl)) rfl hk1) rfl (kp_re [703, 800, 900, 1000] s1)) rfl rfl rfl)) ?_
      refine pg_14_86 (y := (nI (i1 + 1))) (lv' := [some (xm_r (0, 0, 0)), some (xm_i (nI (i1 + 1)))]) rfl (nI_1 i1) rfl ?_
      refine pg_14_89 ?_
      exact K1 (sp_55 n s1 i1) (by unfold sp_14_68; all_goals rfl)
    · intro hd1x4
      show xm_G E (d + 5) true 14 68 [some (xm_r (0, 0, 0)), some (xm_i (nI n))] [] (c, (lq_it n (sp_14_68 n) (sp_23 n (sp_22 n (sp_20 n (lq_it n (sp_14_14 n fl) (sp_17 n (sp_16 n (sp_15 n fi) fl) fl)) fl)) fl)), fl, r) R
      refine pg_14_68 rfl ?_
      refine pg_14_69 rfl ?_
      refine pg_14_70 (sk0 hs) (sr0_2 hs) ?_
      refine pg_14_73 (Or.inr ⟨(sk6 hs), (Or.inr (Or.inr (Or.inr (by decide))))⟩) ?_
      refine pg_14_74 (fun _ => ?_) (fun hc => absurd (nx_le (a := n) (b := n) rfl rfl (by omega) (by omega)) hc)
      refine pg_14_92 rfl ?_
      refine pg_14_93 rfl ?_
      refine pg_14_94 (sk0 hs) ?_
      refine pg_14_97 ?_
      refine pg_14_98 ?_
      refine pg_14_99 (sk0 hs) ?_
      exact go_eq (hR.symm.trans (by unfold sp_14; all_goals rfl)) (pg_14_102)
-- 13: run
def sp_13_20 (n : Nat) (fl : FL) (i1 : Nat) (s1 : FI) : FI := (sp_14 n s1 fl)
theorem kp_sp_13_20 (n : Nat) (fl : FL) (i1 : Nat) (s1 : FI) : kp [4, 5, 6, 203, 204, 205, 206, 207, 208, 209, 210, 500, 703, 710, 711, 712, 800, 900, 1000, 1300] s1 (sp_13_20 n fl i1 s1) := by
  unfold sp_13_20
  exact (kp_tr (kp_re [4, 5, 6, 203, 204, 205, 206, 207, 208, 209, 210, 500, 703, 710, 711, 712, 800, 900, 1000, 1300] s1) rfl (kp_sp_14 n s1 fl))
def sp_13 (n : Nat) (fi : FI) (fl : FL) (m : Nat) : Int32 × FI := (((lq_it m (sp_13_20 n fl) fi) (0, 0, 0) 4), (lq_it m (sp_13_20 n fl) fi))
theorem kp_sp_13 (n : Nat) (fi : FI) (fl : FL) (m : Nat) : kp [4, 5, 6, 203, 204, 205, 206, 207, 208, 209, 210, 500, 703, 710, 711, 712, 800, 900, 1000, 1300] fi ((sp_13 n fi fl m).2) := by
  unfold sp_13
  exact (kp_tr (kp_re [4, 5, 6, 203, 204, 205, 206, 207, 208, 209, 210, 500, 703, 710, 711, 712, 800, 900, 1000, 1300] fi) rfl (kp_it (L := [4, 5, 6, 203, 204, 205, 206, 207, 208, 209, 210, 500, 703, 710, 711, 712, 800, 900, 1000, 1300]) (p := fun (s : FI) => s) (N := m) (F := sp_13_20 n fl) (s0 := fi) (kp_re [4, 5, 6, 203, 204, 205, 206, 207, 208, 209, 210, 500, 703, 710, 711, 712, 800, 900, 1000, 1300] fi) (fun i s => kp_sp_13_20 n fl i s)))
set_option maxRecDepth 4000 in
theorem ct_13 {n : Nat} {E : xm_E} {c : Nat × Nat} {fi : FI} {fl : FL} {r : xm_I → Nat → Option xm_I} {d : Nat} {m : Nat} (hs : sh n E c r) (h1 : 1 ≤ m) (h4 : m ≤ 4) (hf : fz n fi) : xm_C E (d + 7) true 13 [xm_r (0, 0, 0), xm_i (nI m)] (c, fi, fl, r) (.inl (some (xm_i ((sp_13 n fi fl m).1))), (c, (sp_13 n fi fl m).2, fl, r)) := by
  have hn := sh_n hs
  suffices key : ∀ R : xm_O, ((.inl (some (xm_i ((sp_13 n fi fl m).1))), (c, (sp_13 n fi fl m).2, fl, r)) : xm_O) = R → xm_G E (d + 6) true 13 0 [some (xm_r (0, 0, 0)), some (xm_i (nI m)), none] [] (c, fi, fl, r) R from go_inr (by decide) (Nat.le_of_ble_eq_true rfl) (key _ rfl)
  intro R hR
  refine pg_13_0 rfl ?_
  refine pg_13_1 ?_
  refine pg_13_2 (fun hc => absurd hc (nx_nlt (a := m) (b := 1) rfl rfl (by omega) (by omega))) (fun _ => ?_)
  refine pg_13_5 rfl ?_
  refine pg_13_6 ?_
  refine pg_13_7 (fun _ => ?_) (fun hc => absurd (nx_le (a := 4) (b := m) rfl rfl (by omega) (by omega)) hc)
  refine pg_13_18 ?_
  refine pg_13_19 (lv' := [some (xm_r (0, 0, 0)), some (xm_i (nI m)), some (xm_i (0 : Int32))]) rfl ?_
  refine (lq_li (N := m) (f := sp_13_20 n fl) (s0 := fi) (P := fun i1 s1 => xm_G E (d + 6) true 13 20 [some (xm_r (0, 0, 0)), some (xm_i (nI m)), some (xm_i (nI i1))] [] (c, s1, fl, r) R) (I := fun i1 s1 => kp [4, 5, 6, 203, 204, 205, 206, 207, 208, 209, 210, 500, 703, 710, 711, 712, 800, 900, 1000, 1300] fi s1) (kp_re [4, 5, 6, 203, 204, 205, 206, 207, 208, 209, 210, 500, 703, 710, 711, 712, 800, 900, 1000, 1300] _) (fun i1 s1 hi1 hk1 => kp_tr hk1 rfl (kp_sp_13_20 n fl i1 s1)) ?_ ?_)
  · intro i1 s1 hi1 hk1 K1
    show xm_G E (d + 6) true 13 20 [some (xm_r (0, 0, 0)), some (xm_i (nI m)), some (xm_i (nI i1))] [] (c, s1, fl, r) R
    refine pg_13_20 rfl ?_
    refine pg_13_21 rfl ?_
    refine pg_13_22 (fun hc => absurd hc (nx_nle (a := i1) (b := m) rfl rfl (by omega) (by omega))) (fun _ => ?_)
    refine pg_13_25 rfl ?_
    refine pg_13_26 (sk0 hs) (Nat.le_of_ble_eq_true rfl) (ct_14  hs (fz_kp hf (kp_tr (kp_tr (kp_re [4, 5, 6, 203, 204, 205, 206, 207, 208, 209, 210, 500, 703, 710, 711, 712, 800, 900, 1000, 1300] fi) rfl hk1) rfl (kp_re [4, 5, 6, 203, 204, 205, 206, 207, 208, 209, 210, 500, 703, 710, 711, 712, 800, 900, 1000, 1300] s1)) rfl rfl rfl)) ?_
    refine pg_13_29 (y := (nI (i1 + 1))) (lv' := [some (xm_r (0, 0, 0)), some (xm_i (nI m)), some (xm_i (nI (i1 + 1)))]) rfl (nI_1 i1) rfl ?_
    refine pg_13_32 ?_
    exact K1 (sp_14 n s1 fl) (by unfold sp_13_20; all_goals rfl)
  · intro hd1x1
    show xm_G E (d + 6) true 13 20 [some (xm_r (0, 0, 0)), some (xm_i (nI m)), some (xm_i (nI m))] [] (c, (lq_it m (sp_13_20 n fl) fi), fl, r) R
    refine pg_13_20 rfl ?_
    refine pg_13_21 rfl ?_
    refine pg_13_22 (fun _ => ?_) (fun hc => absurd (nx_le (a := m) (b := m) rfl rfl (by omega) (by omega)) hc)
    refine pg_13_35 rfl ?_
    refine pg_13_36 (sk0 hs) ?_
    exact go_eq (hR.symm.trans (by unfold sp_13; all_goals rfl)) (pg_13_39)
