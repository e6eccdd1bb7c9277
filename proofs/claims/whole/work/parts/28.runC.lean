/-! Functions and contracts: Node. Written by wip/whole/prog. -/
theorem pm_9 (n : Nat) (fi : FI) (i k : Nat) (v : Int32) : ∀ m i1, sp_66_9 n fi i k v m i1 = -1 ∨ ∃ p, p < i1 + m ∧ sp_66_9 n fi i k v m i1 = nI p := by
  intro m
  induction m with
  | zero => exact fun i1 => Or.inl rfl
  | succ m ih =>
    intro i1
    have h := ih (i1 + 1)
    rw [sp_66_9]
    split
    · rcases h with h | ⟨p, hp, h⟩
      · exact Or.inl h
      · exact Or.inr ⟨p, by omega, h⟩
    · split
      · rcases h with h | ⟨p, hp, h⟩
        · exact Or.inl h
        · exact Or.inr ⟨p, by omega, h⟩
      · exact Or.inr ⟨i1, by omega, rfl⟩
theorem pm_66 {n : Nat} {fi : FI} {i k : Nat} {v : Int32} (h : ¬ sp_66 n fi i k v = -1) (hn : n < 1000) : sp_66 n fi i k v = nI (sp_66 n fi i k v).toNatClampNeg ∧ (sp_66 n fi i k v).toNatClampNeg < n := by
  rcases pm_9 n fi i k v n 0 with h1 | ⟨p, hp, h1⟩
  · exact absurd h1 h
  · have e : sp_66 n fi i k v = nI p := h1
    rw [e, nI_clamp (by omega)]
    exact ⟨rfl, by omega⟩
-- 44: Node.beginAnew
def sp_44 (fi : FI) (a : Nat) : Bool × FI := (if (fi (7, a, 0) 3) = 0 then true else false, (xm_up (xm_up (xm_up fi (7, a, 0) 3 (1 : Int32)) (7, a, 0) 10 (0 : Int32)) (7, a, 0) 11 (0 : Int32)))
theorem kp_sp_44 (fi : FI) (a : Nat) : kp [703, 710, 711] fi ((sp_44 fi a).2) := by
  unfold sp_44
  exact (kp_up (kp_up (kp_up (kp_re [703, 710, 711] fi) rfl) rfl) rfl)
set_option maxRecDepth 4000 in
theorem ct_44 {n : Nat} {E : xm_E} {c : Nat × Nat} {fi : FI} {fl : FL} {r : xm_I → Nat → Option xm_I} {d : Nat} {a : Nat} (hs : sh n E c r) (ha : a < n) : xm_C E (d + 1) true 44 [xm_r (7, a, 0)] (c, fi, fl, r) (.inl (some (xm_i (bI ((sp_44 fi a).1)))), (c, (sp_44 fi a).2, fl, r)) := by
  have hn := sh_n hs
  suffices key : ∀ R : xm_O, ((.inl (some (xm_i (bI ((sp_44 fi a).1)))), (c, (sp_44 fi a).2, fl, r)) : xm_O) = R → xm_G E (d + 0) true 44 0 [some (xm_r (7, a, 0)), none] [] (c, fi, fl, r) R from go_inr (by decide) (Nat.le_of_ble_eq_true rfl) (key _ rfl)
  intro R hR
  suffices KJ : xm_G E (d + 0) true 44 12 [some (xm_r (7, a, 0)), none] [xm_i (bI (if (fi (7, a, 0) 3) = 0 then true else false))] (c, fi, fl, r) R by
    refine pg_44_0 rfl ?_
    refine pg_44_1 (sk7 hs (i := a) (by omega)) ?_
    refine pg_44_4 (fun hc1 => ?_) (fun hc2 => ?_)
    · refine pg_44_11 ?_
      repeat rw [if_neg hc1] at KJ
      repeat rw [if_neg hc1]
      exact KJ
    · refine pg_44_7 ?_
      refine pg_44_8 ?_
      repeat rw [if_pos hc2] at KJ
      repeat rw [if_pos hc2]
      exact KJ
  refine pg_44_12 (lv' := [some (xm_r (7, a, 0)), some (xm_i (bI (if (fi (7, a, 0) 3) = 0 then true else false)))]) rfl ?_
  refine pg_44_13 rfl ?_
  refine pg_44_14 ?_
  refine pg_44_15 (sk7 hs (i := a) (by omega)) (Or.inr rfl) ?_
  refine pg_44_18 rfl ?_
  refine pg_44_19 ?_
  refine pg_44_20 (sk7 hs (i := a) (by omega)) (Or.inl rfl) ?_
  refine pg_44_23 rfl ?_
  refine pg_44_24 ?_
  refine pg_44_25 (sk7 hs (i := a) (by omega)) (Or.inl rfl) ?_
  refine pg_44_28 rfl ?_
  exact go_eq (hR.symm.trans (by unfold sp_44; all_goals rfl)) (pg_44_29 (bI_01 _))
-- 45: Node.beginRound
def sp_45_37 (a : Nat) (i1 : Nat) (s1 : FI) : FI := (sp_62 s1 a (6 + i1))
theorem kp_sp_45_37 (a : Nat) (i1 : Nat) (s1 : FI) : kp [900] s1 (sp_45_37 a i1 s1) := by
  unfold sp_45_37
  exact (kp_tr (kp_re [900] s1) rfl (kp_sp_62 s1 a (6 + i1)))
def sp_45_62 (a : Nat) (i1 : Nat) (s1 : FI) : FI := (sp_62 s1 a (2 + i1))
theorem kp_sp_45_62 (a : Nat) (i1 : Nat) (s1 : FI) : kp [900] s1 (sp_45_62 a i1 s1) := by
  unfold sp_45_62
  exact (kp_tr (kp_re [900] s1) rfl (kp_sp_62 s1 a (2 + i1)))
def sp_45 (n : Nat) (fi : FI) (a : Nat) : FI := (lq_it 4 (sp_45_62 a) (lq_it n (sp_45_37 a) (sp_62 (sp_62 (xm_up (xm_up fi (7, a, 0) 10 (bI (if (fi (7, a, 0) 3) = 0 then true else false))) (7, a, 0) 11 (0 : Int32)) a 0) a 1)))
theorem kp_sp_45 (n : Nat) (fi : FI) (a : Nat) : kp [710, 711, 900] fi (sp_45 n fi a) := by
  unfold sp_45
  exact (kp_tr (kp_tr (kp_tr (kp_tr (kp_up (kp_up (kp_re [710, 711, 900] fi) rfl) rfl) rfl (kp_sp_62 (xm_up (xm_up fi (7, a, 0) 10 (bI (if (fi (7, a, 0) 3) = 0 then true else false))) (7, a, 0) 11 (0 : Int32)) a 0)) rfl (kp_sp_62 (sp_62 (xm_up (xm_up fi (7, a, 0) 10 (bI (if (fi (7, a, 0) 3) = 0 then true else false))) (7, a, 0) 11 (0 : Int32)) a 0) a 1)) rfl (kp_it (L := [900]) (p := fun (s : FI) => s) (N := n) (F := sp_45_37 a) (s0 := (sp_62 (sp_62 (xm_up (xm_up fi (7, a, 0) 10 (bI (if (fi (7, a, 0) 3) = 0 then true else false))) (7, a, 0) 11 (0 : Int32)) a 0) a 1)) (kp_re [900] (sp_62 (sp_62 (xm_up (xm_up fi (7, a, 0) 10 (bI (if (fi (7, a, 0) 3) = 0 then true else false))) (7, a, 0) 11 (0 : Int32)) a 0) a 1)) (fun i s => kp_sp_45_37 a i s))) rfl (kp_it (L := [900]) (p := fun (s : FI) => s) (N := 4) (F := sp_45_62 a) (s0 := (lq_it n (sp_45_37 a) (sp_62 (sp_62 (xm_up (xm_up fi (7, a, 0) 10 (bI (if (fi (7, a, 0) 3) = 0 then true else false))) (7, a, 0) 11 (0 : Int32)) a 0) a 1))) (kp_re [900] (lq_it n (sp_45_37 a) (sp_62 (sp_62 (xm_up (xm_up fi (7, a, 0) 10 (bI (if (fi (7, a, 0) 3) = 0 then true else false))) (7, a, 0) 11 (0 : Int32)) a 0) a 1))) (fun i s => kp_sp_45_62 a i s)))
set_option maxRecDepth 4000 in
theorem ct_45 {n : Nat} {E : xm_E} {c : Nat × Nat} {fi : FI} {fl : FL} {r : xm_I → Nat → Option xm_I} {d : Nat} {a : Nat} (hs : sh n E c r) (ha : a < n) (hf : fz n fi) : xm_C E (d + 2) true 45 [xm_r (7, a, 0)] (c, fi, fl, r) (.inl (none), (c, (sp_45 n fi a), fl, r)) := by
  have hn := sh_n hs
  suffices key : ∀ R : xm_O, ((.inl (none), (c, (sp_45 n fi a), fl, r)) : xm_O) = R → xm_G E (d + 1) true 45 0 [some (xm_r (7, a, 0)), none] [] (c, fi, fl, r) R from go_inr (by decide) (Nat.le_of_ble_eq_true rfl) (key _ rfl)
  intro R hR
  refine pg_45_0 rfl ?_
  suffices KJ : xm_G E (d + 1) true 45 13 [some (xm_r (7, a, 0)), none] [xm_i (bI (if (fi (7, a, 0) 3) = 0 then true else false)), xm_r (7, a, 0)] (c, fi, fl, r) R by
    refine pg_45_1 rfl ?_
    refine pg_45_2 (sk7 hs (i := a) (by omega)) ?_
    refine pg_45_5 (fun hc1 => ?_) (fun hc2 => ?_)
    · refine pg_45_12 ?_
      repeat rw [if_neg hc1] at KJ
      repeat rw [if_neg hc1]
      exact KJ
    · refine pg_45_8 ?_
      refine pg_45_9 ?_
      repeat rw [if_pos hc2] at KJ
      repeat rw [if_pos hc2]
      exact KJ
  refine pg_45_13 (sk7 hs (i := a) (by omega)) (bI_01 _) ?_
  refine pg_45_16 rfl ?_
  refine pg_45_17 ?_
  refine pg_45_18 (sk7 hs (i := a) (by omega)) (Or.inl rfl) ?_
  refine pg_45_21 rfl ?_
  refine pg_45_22 (sk7 hs (i := a) (by omega)) (sr7_5 hs (i := a) (by omega)) ?_
  refine pg_45_25 (sk9 hs (i := a) (k := 0) (by show _ ∨ _; omega)) (Nat.le_of_ble_eq_true rfl) (ct_62 (i := a) (k := 0) hs (by show _ ∨ _; omega)) ?_
  refine pg_45_28 rfl ?_
  refine pg_45_29 (sk7 hs (i := a) (by omega)) (sr7_8 hs (i := a) (by omega)) ?_
  refine pg_45_32 (sk9 hs (i := a) (k := 1) (by show _ ∨ _; omega)) (Nat.le_of_ble_eq_true rfl) (ct_62 (i := a) (k := 1) hs (by show _ ∨ _; omega)) ?_
  refine pg_45_35 ?_
  refine pg_45_36 (lv' := [some (xm_r (7, a, 0)), some (xm_i (0 : Int32))]) rfl ?_
  refine (lq_li (N := n) (f := sp_45_37 a) (s0 := (sp_62 (sp_62 (xm_up (xm_up fi (7, a, 0) 10 (bI (if (fi (7, a, 0) 3) = 0 then true else false))) (7, a, 0) 11 (0 : Int32)) a 0) a 1)) (P := fun i1 s1 => xm_G E (d + 1) true 45 37 [some (xm_r (7, a, 0)), some (xm_i (nI i1))] [] (c, s1, fl, r) R) (I := fun i1 s1 => kp [900] (sp_62 (sp_62 (xm_up (xm_up fi (7, a, 0) 10 (bI (if (fi (7, a, 0) 3) = 0 then true else false))) (7, a, 0) 11 (0 : Int32)) a 0) a 1) s1) (kp_re [900] _) (fun i1 s1 hi1 hk1 => kp_tr hk1 rfl (kp_sp_45_37 a i1 s1)) ?_ ?_)
  · intro i1 s1 hi1 hk1 K1
    show xm_G E (d + 1) true 45 37 [some (xm_r (7, a, 0)), some (xm_i (nI i1))] [] (c, s1, fl, r) R
    refine pg_45_37 rfl ?_
    refine pg_45_38 rfl ?_
    refine pg_45_39 (sk7 hs (i := a) (by omega)) ?_
    refine go_top (y := nI n) ((fz_kp hf (kp_tr (kp_tr (kp_tr (kp_tr (kp_up (kp_up (kp_re [710, 711, 900] fi) rfl) rfl) rfl (kp_sp_62 (xm_up (xm_up fi (7, a, 0) 10 (bI (if (fi (7, a, 0) 3) = 0 then true else false))) (7, a, 0) 11 (0 : Int32)) a 0)) rfl (kp_sp_62 (sp_62 (xm_up (xm_up fi (7, a, 0) 10 (bI (if (fi (7, a, 0) 3) = 0 then true else false))) (7, a, 0) 11 (0 : Int32)) a 0) a 1)) rfl hk1) rfl (kp_re [900] s1)) rfl rfl rfl).1 a (by omega)).2 ?_
    refine pg_45_42 (fun hc => absurd hc (nx_nle (a := i1) (b := n) rfl rfl (by omega) (by omega))) (fun _ => ?_)
    refine pg_45_45 rfl ?_
    refine pg_45_46 (sk7 hs (i := a) (by omega)) (sr7_6 hs (i := a) (by omega)) ?_
    refine pg_45_49 rfl ?_
    refine pg_45_50 (sk11 hs (i := a) (by omega)) (by decide) (i := i1) rfl (by omega) (by omega) (sr11 hs (i := a) (k := i1) (by omega) (by omega)) ?_
    refine pg_45_51 (sk9 hs (i := a) (k := 6 + i1) (by show _ ∨ _; omega)) (Nat.le_of_ble_eq_true rfl) (ct_62 (i := a) (k := 6 + i1) hs (by show _ ∨ _; omega)) ?_
    refine pg_45_54 (y := (nI (i1 + 1))) (lv' := [some (xm_r (7, a, 0)), some (xm_i (nI (i1 + 1)))]) rfl (nI_1 i1) rfl ?_
    refine pg_45_57 ?_
    exact K1 (sp_62 s1 a (6 + i1)) (by unfold sp_45_37; all_goals rfl)
  · intro hd1x3
    show xm_G E (d + 1) true 45 37 [some (xm_r (7, a, 0)), some (xm_i (nI n))] [] (c, (lq_it n (sp_45_37 a) (sp_62 (sp_62 (xm_up (xm_up fi (7, a, 0) 10 (bI (if (fi (7, a, 0) 3) = 0 then true else false))) (7, a, 0) 11 (0 : Int32)) a 0) a 1)), fl, r) R
    refine pg_45_37 rfl ?_
    refine pg_45_38 rfl ?_
    refine pg_45_39 (sk7 hs (i := a) (by omega)) ?_
    refine go_top (y := nI n) ((fz_kp hf (kp_tr (kp_tr (kp_tr (kp_up (kp_up (kp_re [710, 711, 900] fi) rfl) rfl) rfl (kp_sp_62 (xm_up (xm_up fi (7, a, 0) 10 (bI (if (fi (7, a, 0) 3) = 0 then true else false))) (7, a, 0) 11 (0 : Int32)) a 0)) rfl (kp_sp_62 (sp_62 (xm_up (xm_up fi (7, a, 0) 10 (bI (if (fi (7, a, 0) 3) = 0 then true else false))) (7, a, 0) 11 (0 : Int32)) a 0) a 1)) rfl (kp_it (L := [900]) (p := fun (s : FI) => s) (N := n) (F := sp_45_37 a) (s0 := (sp_62 (sp_62 (xm_up (xm_up fi (7, a, 0) 10 (bI (if (fi (7, a, 0) 3) = 0 then true else false))) (7, a, 0) 11 (0 : Int32)) a 0) a 1)) (kp_re [900] (sp_62 (sp_62 (xm_up (xm_up fi (7, a, 0) 10 (bI (if (fi (7, a, 0) 3) = 0 then true else false))) (7, a, 0) 11 (0 : Int32)) a 0) a 1)) (fun i s => kp_sp_45_37 a i s))) rfl rfl rfl).1 a (by omega)).2 ?_
    refine pg_45_42 (fun _ => ?_) (fun hc => absurd (nx_le (a := n) (b := n) rfl rfl (by omega) (by omega)) hc)
    refine pg_45_60 ?_
    refine pg_45_61 (lv' := [some (xm_r (7, a, 0)), some (xm_i (0 : Int32))]) rfl ?_
    refine (lq_li (N := 4) (f := sp_45_62 a) (s0 := (lq_it n (sp_45_37 a) (sp_62 (sp_62 (xm_up (xm_up fi (7, a, 0) 10 (bI (if (fi (7, a, 0) 3) = 0 then true else false))) (7, a, 0) 11 (0 : Int32)) a 0) a 1))) (P := fun i1 s1 => xm_G E (d + 1) true 45 62 [some (xm_r (7, a, 0)), some (xm_i (nI i1))] [] (c, s1, fl, r) R) (I := fun i1 s1 => kp [900] (lq_it n (sp_45_37 a) (sp_62 (sp_62 (xm_up (xm_up fi (7, a, 0) 10 (bI (if (fi (7, a, 0) 3) = 0 then true else false))) (7, a, 0) 11 (0 : Int32)) a 0) a 1)) s1) (kp_re [900] _) (fun i1 s1 hi1 hk1 => kp_tr hk1 rfl (kp_sp_45_62 a i1 s1)) ?_ ?_)
    · intro i1 s1 hi1 hk1 K1
      show xm_G E (d + 1) true 45 62 [some (xm_r (7, a, 0)), some (xm_i (nI i1))] [] (c, s1, fl, r) R
      refine pg_45_62 rfl ?_
      refine pg_45_63 ?_
      refine pg_45_64 (fun hc => absurd hc (nx_nle (a := i1) (b := 4) rfl (rfl : (4 : Int32) = nI 4) (by omega) (by omega))) (fun _ => ?_)
      refine pg_45_67 rfl ?_
      refine pg_45_68 (sk7 hs (i := a) (by omega)) (sr7_7 hs (i := a) (by omega)) ?_
      refine pg_45_71 rfl ?_
      refine pg_45_72 (sk12 hs (i := a) (by omega)) (by decide) (i := i1) rfl (by omega) (by omega) (sr12 hs (i := a) (k := i1) (by omega) (by omega)) ?_
      refine pg_45_73 (sk9 hs (i := a) (k := 2 + i1) (by show _ ∨ _; omega)) (Nat.le_of_ble_eq_true rfl) (ct_62 (i := a) (k := 2 + i1) hs (by show _ ∨ _; omega)) ?_
      refine pg_45_76 (y := (nI (i1 + 1))) (lv' := [some (xm_r (7, a, 0)), some (xm_i (nI (i1 + 1)))]) rfl (nI_1 i1) rfl ?_
      refine pg_45_79 ?_
      exact K1 (sp_62 s1 a (2 + i1)) (by unfold sp_45_62; all_goals rfl)
    · intro hd1x4
      show xm_G E (d + 1) true 45 62 [some (xm_r (7, a, 0)), some (xm_i (nI 4))] [] (c, (lq_it 4 (sp_45_62 a) (lq_it n (sp_45_37 a) (sp_62 (sp_62 (xm_up (xm_up fi (7, a, 0) 10 (bI (if (fi (7, a, 0) 3) = 0 then true else false))) (7, a, 0) 11 (0 : Int32)) a 0) a 1))), fl, r) R
      refine pg_45_62 rfl ?_
      refine pg_45_63 ?_
      refine pg_45_64 (fun _ => ?_) (fun hc => absurd (nx_le (a := 4) (b := 4) rfl (rfl : (4 : Int32) = nI 4) (by omega) (by omega)) hc)
      exact go_eq (hR.symm.trans (by unfold sp_45; all_goals rfl)) (pg_45_82)
-- 50: Node.isMember
def sp_50 (fi : FI) (a : Nat) (i : Nat) : Bool := if (((fi (8, a, 0) 2) >>> ((nI i) &&& 31)) &&& (1 : Int32)) = 0 then (false) else (true)
set_option maxRecDepth 4000 in
theorem ct_50 {n : Nat} {E : xm_E} {c : Nat × Nat} {fi : FI} {fl : FL} {r : xm_I → Nat → Option xm_I} {d : Nat} {md : Bool} {a : Nat} {i : Nat} (hs : sh n E c r) (ha : a < n) : xm_C E (d + 1) md 50 [xm_r (7, a, 0), xm_i (nI i)] (c, fi, fl, r) (.inl (some (xm_i (bI (sp_50 fi a i)))), (c, fi, fl, r)) := by
  have hn := sh_n hs
  suffices key : ∀ R : xm_O, ((.inl (some (xm_i (bI (sp_50 fi a i)))), (c, fi, fl, r)) : xm_O) = R → xm_G E (d + 0) md 50 0 [some (xm_r (7, a, 0)), some (xm_i (nI i))] [] (c, fi, fl, r) R from go_inr (by decide) (Nat.le_of_ble_eq_true rfl) (key _ rfl)
  intro R hR
  refine pg_50_0 rfl ?_
  refine pg_50_1 (sk7 hs (i := a) (by omega)) (sr7_4 hs (i := a) (by omega)) ?_
  refine pg_50_4 ?_
  refine pg_50_5 (Or.inl (sk8 hs (i := a) (by omega))) (i := 2) (rfl : (2 : Int32) = nI 2) (by omega) (by omega) ?_
  refine pg_50_6 rfl ?_
  refine pg_50_7 ?_
  refine pg_50_8 ?_
  refine pg_50_9 ?_
  refine pg_50_10 (fun hc1 => ?_) (fun hc2 => ?_)
  · refine pg_50_17 ?_
    exact go_eq (hR.symm.trans (by unfold sp_50; try rw [if_pos hc1]; all_goals rfl)) (pg_50_18 (Or.inl rfl))
  · refine pg_50_13 ?_
    refine pg_50_14 ?_
    exact go_eq (hR.symm.trans (by unfold sp_50; try rw [if_neg hc2]; all_goals rfl)) (pg_50_18 (Or.inr rfl))
-- 54: Node.countOf
def sp_54 (fi : FI) (a : Nat) (i : Nat) : Int32 := (((fi (8, a, 0) 3) >>> (((4 : Int32) * (nI i)) &&& 31)) &&& (15 : Int32))
set_option maxRecDepth 4000 in
theorem ct_54 {n : Nat} {E : xm_E} {c : Nat × Nat} {fi : FI} {fl : FL} {r : xm_I → Nat → Option xm_I} {d : Nat} {md : Bool} {a : Nat} {i : Nat} (hs : sh n E c r) (ha : a < n) : xm_C E (d + 1) md 54 [xm_r (7, a, 0), xm_i (nI i)] (c, fi, fl, r) (.inl (some (xm_i (sp_54 fi a i))), (c, fi, fl, r)) := by
  have hn := sh_n hs
  suffices key : ∀ R : xm_O, ((.inl (some (xm_i (sp_54 fi a i))), (c, fi, fl, r)) : xm_O) = R → xm_G E (d + 0) md 54 0 [some (xm_r (7, a, 0)), some (xm_i (nI i))] [] (c, fi, fl, r) R from go_inr (by decide) (Nat.le_of_ble_eq_true rfl) (key _ rfl)
  intro R hR
  refine pg_54_0 rfl ?_
  refine pg_54_1 (sk7 hs (i := a) (by omega)) (sr7_4 hs (i := a) (by omega)) ?_
  refine pg_54_4 ?_
  refine pg_54_5 (Or.inl (sk8 hs (i := a) (by omega))) (i := 3) (rfl : (3 : Int32) = nI 3) (by omega) (by omega) ?_
  refine pg_54_6 ?_
  refine pg_54_7 rfl ?_
  refine pg_54_8 ?_
  refine pg_54_9 ?_
  refine pg_54_10 ?_
  refine pg_54_12 ?_
  exact go_eq (hR.symm.trans (by unfold sp_54; all_goals rfl)) (pg_54_13)
-- 53: Node.setCount
def sp_53 (fi : FI) (a : Nat) (i : Nat) (x : Int32) : FI := (xm_up fi (8, a, 0) 3 (((fi (8, a, 0) 3) &&& (((15 : Int32) <<< (((4 : Int32) * (nI i)) &&& 31)) ^^^ (-1 : Int32))) ||| (x <<< (((4 : Int32) * (nI i)) &&& 31))))
theorem kp_sp_53 (fi : FI) (a : Nat) (i : Nat) (x : Int32) : kp [800] fi (sp_53 fi a i x) := by
  unfold sp_53
  exact (kp_up (kp_re [800] fi) rfl)
set_option maxRecDepth 4000 in
theorem ct_53 {n : Nat} {E : xm_E} {c : Nat × Nat} {fi : FI} {fl : FL} {r : xm_I → Nat → Option xm_I} {d : Nat} {a : Nat} {i : Nat} {x : Int32} (hs : sh n E c r) (ha : a < n) : xm_C E (d + 1) true 53 [xm_r (7, a, 0), xm_i (nI i), xm_i x] (c, fi, fl, r) (.inl (none), (c, (sp_53 fi a i x), fl, r)) := by
  have hn := sh_n hs
  suffices key : ∀ R : xm_O, ((.inl (none), (c, (sp_53 fi a i x), fl, r)) : xm_O) = R → xm_G E (d + 0) true 53 0 [some (xm_r (7, a, 0)), some (xm_i (nI i)), some (xm_i x), none] [] (c, fi, fl, r) R from go_inr (by decide) (Nat.le_of_ble_eq_true rfl) (key _ rfl)
  intro R hR
  refine pg_53_0 ?_
  refine pg_53_1 rfl ?_
  refine pg_53_2 ?_
  refine pg_53_3 (lv' := [some (xm_r (7, a, 0)), some (xm_i (nI i)), some (xm_i x), some (xm_i ((4 : Int32) * (nI i)))]) rfl ?_
  refine pg_53_4 rfl ?_
  refine pg_53_5 (sk7 hs (i := a) (by omega)) (sr7_4 hs (i := a) (by omega)) ?_
  refine pg_53_8 ?_
  refine pg_53_9 rfl ?_
  refine pg_53_10 (sk7 hs (i := a) (by omega)) (sr7_4 hs (i := a) (by omega)) ?_
  refine pg_53_13 ?_
  refine pg_53_14 (Or.inl (sk8 hs (i := a) (by omega))) (i := 3) (rfl : (3 : Int32) = nI 3) (by omega) (by omega) ?_
  refine pg_53_15 ?_
  refine pg_53_17 rfl ?_
  refine pg_53_18 ?_
  refine pg_53_19 ?_
  refine pg_53_20 ?_
  refine pg_53_21 ?_
  refine pg_53_22 rfl ?_
  refine pg_53_23 rfl ?_
  refine pg_53_24 ?_
  refine pg_53_25 ?_
  refine pg_53_26 (sk8 hs (i := a) (by omega)) (i := 3) (rfl : (3 : Int32) = nI 3) (by omega) (by omega) ?_
  exact go_eq (hR.symm.trans (by unfold sp_53; all_goals rfl)) (pg_53_27)
-- 47: Node.agreeOn
def sp_47 (n : Nat) (fi : FI) (a : Nat) (i : Nat) : FI := if (nI i) = (nI a) then ((sp_63 fi a 1 i (fi (7, a, 0) 2))) else (if (sp_66 n (if (bI (sp_64 fi a 0 i)) = 0 then fi else (sp_63 fi a (6 + i) a (sp_65 fi a 0 i))) a (6 + i) ((((if (bI (sp_64 fi a 0 i)) = 0 then fi else (sp_63 fi a (6 + i) a (sp_65 fi a 0 i))) (8, a, 0) 2) ||| ((1 : Int32) <<< ((nI a) &&& 31))) &&& (((1 : Int32) <<< ((nI i) &&& 31)) ^^^ (-1 : Int32)))) = (-1 : Int32) then ((if (bI (sp_64 fi a 0 i)) = 0 then fi else (sp_63 fi a (6 + i) a (sp_65 fi a 0 i)))) else ((sp_63 (if (bI (sp_64 fi a 0 i)) = 0 then fi else (sp_63 fi a (6 + i) a (sp_65 fi a 0 i))) a 1 i (sp_65 (if (bI (sp_64 fi a 0 i)) = 0 then fi else (sp_63 fi a (6 + i) a (sp_65 fi a 0 i))) a (6 + i) ((sp_66 n (if (bI (sp_64 fi a 0 i)) = 0 then fi else (sp_63 fi a (6 + i) a (sp_65 fi a 0 i))) a (6 + i) ((((if (bI (sp_64 fi a 0 i)) = 0 then fi else (sp_63 fi a (6 + i) a (sp_65 fi a 0 i))) (8, a, 0) 2) ||| ((1 : Int32) <<< ((nI a) &&& 31))) &&& (((1 : Int32) <<< ((nI i) &&& 31)) ^^^ (-1 : Int32)))).toNatClampNeg)))))
theorem kp_sp_47 (n : Nat) (fi : FI) (a : Nat) (i : Nat) : kp [900, 1000] fi (sp_47 n fi a i) := by
  unfold sp_47
  rcases Classical.em ((nI i) = (nI a)) with hc | hc
  · (try rw [if_pos hc])
    exact (kp_tr (kp_re [900, 1000] fi) rfl (kp_sp_63 fi a 1 i (fi (7, a, 0) 2)))
  · (try rw [if_neg hc])
    rcases Classical.em ((sp_66 n (if (bI (sp_64 fi a 0 i)) = 0 then fi else (sp_63 fi a (6 + i) a (sp_65 fi a 0 i))) a (6 + i) ((((if (bI (sp_64 fi a 0 i)) = 0 then fi else (sp_63 fi a (6 + i) a (sp_65 fi a 0 i))) (8, a, 0) 2) ||| ((1 : Int32) <<< ((nI a) &&& 31))) &&& (((1 : Int32) <<< ((nI i) &&& 31)) ^^^ (-1 : Int32)))) = (-1 : Int32)) with hc | hc
    · (try rw [if_pos hc])
      exact (kp_if (kp_re [900, 1000] fi) (kp_tr (kp_re [900, 1000] fi) rfl (kp_sp_63 fi a (6 + i) a (sp_65 fi a 0 i))))
    · (try rw [if_neg hc])
      exact (kp_tr (kp_if (kp_re [900, 1000] fi) (kp_tr (kp_re [900, 1000] fi) rfl (kp_sp_63 fi a (6 + i) a (sp_65 fi a 0 i)))) rfl (kp_sp_63 (if (bI (sp_64 fi a 0 i)) = 0 then fi else (sp_63 fi a (6 + i) a (sp_65 fi a 0 i))) a 1 i (sp_65 (if (bI (sp_64 fi a 0 i)) = 0 then fi else (sp_63 fi a (6 + i) a (sp_65 fi a 0 i))) a (6 + i) ((sp_66 n (if (bI (sp_64 fi a 0 i)) = 0 then fi else (sp_63 fi a (6 + i) a (sp_65 fi a 0 i))) a (6 + i) ((((if (bI (sp_64 fi a 0 i)) = 0 then fi else (sp_63 fi a (6 + i) a (sp_65 fi a 0 i))) (8, a, 0) 2) ||| ((1 : Int32) <<< ((nI a) &&& 31))) &&& (((1 : Int32) <<< ((nI i) &&& 31)) ^^^ (-1 : Int32)))).toNatClampNeg))))
set_option maxRecDepth 4000 in
theorem ct_47 {n : Nat} {E : xm_E} {c : Nat × Nat} {fi : FI} {fl : FL} {r : xm_I → Nat → Option xm_I} {d : Nat} {a : Nat} {i : Nat} (hs : sh n E c r) (ha : a < n) (hi : i < n) (hf : fz n fi) : xm_C E (d + 3) true 47 [xm_r (7, a, 0), xm_i (nI i)] (c, fi, fl, r) (.inl (none), (c, (sp_47 n fi a i), fl, r)) := by
  have hn := sh_n hs
  suffices key : ∀ R : xm_O, ((.inl (none), (c, (sp_47 n fi a i), fl, r)) : xm_O) = R → xm_G E (d + 2) true 47 0 [some (xm_r (7, a, 0)), some (xm_i (nI i)), none, none, none] [] (c, fi, fl, r) R from go_inr (by decide) (Nat.le_of_ble_eq_true rfl) (key _ rfl)
  intro R hR
  refine pg_47_0 rfl ?_
  refine pg_47_1 rfl ?_
  refine pg_47_2 (sk7 hs (i := a) (by omega)) ?_
  refine go_top (y := nI a) ((fz_kp hf (kp_re [900, 1000] fi) rfl rfl rfl).1 a (by omega)).1 ?_
  refine pg_47_5 (fun hc1 => ?_) (fun hc2 => ?_)
  · refine pg_47_21 rfl ?_
    refine pg_47_22 (sk7 hs (i := a) (by omega)) (sr7_6 hs (i := a) (by omega)) ?_
    refine pg_47_25 rfl ?_
    refine pg_47_26 (sk11 hs (i := a) (by omega)) (by decide) (i := i) rfl (by omega) (by omega) (sr11 hs (i := a) (k := i) (by omega) (by omega)) ?_
    refine pg_47_27 (lv' := [some (xm_r (7, a, 0)), some (xm_i (nI i)), some (xm_r (9, a, 6 + i)), none, none]) rfl ?_
    suffices KJ : xm_G E (d + 2) true 47 55 [some (xm_r (7, a, 0)), some (xm_i (nI i)), some (xm_r (9, a, 6 + i)), none, none] [] (c, (if (bI (sp_64 fi a 0 i)) = 0 then fi else (sp_63 fi a (6 + i) a (sp_65 fi a 0 i))), fl, r) R by
      refine pg_47_28 rfl ?_
      refine pg_47_29 (sk7 hs (i := a) (by omega)) (sr7_5 hs (i := a) (by omega)) ?_
      refine pg_47_32 rfl ?_
      refine pg_47_33 (sk9 hs (i := a) (k := 0) (by show _ ∨ _; omega)) (Nat.le_of_ble_eq_true rfl) (ct_64 (i := a) (k := 0) (p := i) hs (by show _ ∨ _; omega) (by omega)) ?_
      refine pg_47_36 (fun hc3 => ?_) (fun hc4 => ?_)
      · repeat rw [if_pos hc3] at KJ
        repeat rw [if_pos hc3]
        exact KJ
      · refine pg_47_39 rfl ?_
        refine pg_47_40 rfl ?_
        refine pg_47_41 (sk7 hs (i := a) (by omega)) ?_
        refine go_top (y := nI a) ((fz_kp hf (kp_re [900, 1000] fi) rfl rfl rfl).1 a (by omega)).1 ?_
        refine pg_47_44 rfl ?_
        refine pg_47_45 (sk7 hs (i := a) (by omega)) (sr7_5 hs (i := a) (by omega)) ?_
        refine pg_47_48 rfl ?_
        refine pg_47_49 (sk9 hs (i := a) (k := 0) (by show _ ∨ _; omega)) (Nat.le_of_ble_eq_true rfl) (ct_65 (i := a) (k := 0) (p := i) hs (by show _ ∨ _; omega) (by omega)) ?_
        refine pg_47_52 (sk9 hs (i := a) (k := 6 + i) (by show _ ∨ _; omega)) (Nat.le_of_ble_eq_true rfl) (ct_63 (i := a) (k := 6 + i) (p := a) (x := (sp_65 fi a 0 i)) hs (by show _ ∨ _; omega) (by omega)) ?_
        repeat rw [if_neg hc4] at KJ
        repeat rw [if_neg hc4]
        exact KJ
    refine pg_47_55 rfl ?_
    refine pg_47_56 (sk7 hs (i := a) (by omega)) (sr7_4 hs (i := a) (by omega)) ?_
    refine pg_47_59 ?_
    refine pg_47_60 (Or.inl (sk8 hs (i := a) (by omega))) (i := 2) (rfl : (2 : Int32) = nI 2) (by omega) (by omega) ?_
    refine pg_47_61 ?_
    refine pg_47_62 rfl ?_
    refine pg_47_63 (sk7 hs (i := a) (by omega)) ?_
    refine go_top (y := nI a) ((fz_kp hf (kp_if (kp_re [900, 1000] fi) (kp_tr (kp_re [900, 1000] fi) rfl (kp_sp_63 fi a (6 + i) a (sp_65 fi a 0 i)))) rfl rfl rfl).1 a (by omega)).1 ?_
    refine pg_47_66 ?_
    refine pg_47_67 ?_
    refine pg_47_68 ?_
    refine pg_47_69 rfl ?_
    refine pg_47_70 ?_
    refine pg_47_71 ?_
    refine pg_47_72 ?_
    refine pg_47_73 ?_
    refine pg_47_74 (lv' := [some (xm_r (7, a, 0)), some (xm_i (nI i)), some (xm_r (9, a, 6 + i)), some (xm_i ((((if (bI (sp_64 fi a 0 i)) = 0 then fi else (sp_63 fi a (6 + i) a (sp_65 fi a 0 i))) (8, a, 0) 2) ||| ((1 : Int32) <<< ((nI a) &&& 31))) &&& (((1 : Int32) <<< ((nI i) &&& 31)) ^^^ (-1 : Int32)))), none]) rfl ?_
    refine pg_47_75 rfl ?_
    refine pg_47_76 rfl ?_
    refine pg_47_77 (sk9 hs (i := a) (k := 6 + i) (by show _ ∨ _; omega)) (Nat.le_of_ble_eq_true rfl) (ct_66 (i := a) (k := 6 + i) (v := ((((if (bI (sp_64 fi a 0 i)) = 0 then fi else (sp_63 fi a (6 + i) a (sp_65 fi a 0 i))) (8, a, 0) 2) ||| ((1 : Int32) <<< ((nI a) &&& 31))) &&& (((1 : Int32) <<< ((nI i) &&& 31)) ^^^ (-1 : Int32)))) hs (by show _ ∨ _; omega)) ?_
    refine pg_47_80 (lv' := [some (xm_r (7, a, 0)), some (xm_i (nI i)), some (xm_r (9, a, 6 + i)), some (xm_i ((((if (bI (sp_64 fi a 0 i)) = 0 then fi else (sp_63 fi a (6 + i) a (sp_65 fi a 0 i))) (8, a, 0) 2) ||| ((1 : Int32) <<< ((nI a) &&& 31))) &&& (((1 : Int32) <<< ((nI i) &&& 31)) ^^^ (-1 : Int32)))), some (xm_i (sp_66 n (if (bI (sp_64 fi a 0 i)) = 0 then fi else (sp_63 fi a (6 + i) a (sp_65 fi a 0 i))) a (6 + i) ((((if (bI (sp_64 fi a 0 i)) = 0 then fi else (sp_63 fi a (6 + i) a (sp_65 fi a 0 i))) (8, a, 0) 2) ||| ((1 : Int32) <<< ((nI a) &&& 31))) &&& (((1 : Int32) <<< ((nI i) &&& 31)) ^^^ (-1 : Int32)))))]) rfl ?_
    refine pg_47_82 rfl ?_
    refine pg_47_84 ?_
    refine pg_47_85 (fun hc5 => ?_) (fun hc6 => ?_)
    · exact go_eq (hR.symm.trans (by unfold sp_47; try rw [if_neg hc1]; try rw [if_pos hc5]; all_goals rfl)) (pg_47_102)
    · refine pg_47_88 rfl ?_
      refine pg_47_89 (sk7 hs (i := a) (by omega)) (sr7_8 hs (i := a) (by omega)) ?_
      refine pg_47_92 rfl ?_
      refine pg_47_93 rfl ?_
      refine pg_47_94 rfl ?_
      have hpm := pm_66 hc6 (by omega)
      refine go_top (y := nI (sp_66 n (if (bI (sp_64 fi a 0 i)) = 0 then fi else (sp_63 fi a (6 + i) a (sp_65 fi a 0 i))) a (6 + i) ((((if (bI (sp_64 fi a 0 i)) = 0 then fi else (sp_63 fi a (6 + i) a (sp_65 fi a 0 i))) (8, a, 0) 2) ||| ((1 : Int32) <<< ((nI a) &&& 31))) &&& (((1 : Int32) <<< ((nI i) &&& 31)) ^^^ (-1 : Int32)))).toNatClampNeg) hpm.1 ?_
      refine pg_47_96 (sk9 hs (i := a) (k := 6 + i) (by show _ ∨ _; omega)) (Nat.le_of_ble_eq_true rfl) (ct_65 (i := a) (k := 6 + i) (p := (sp_66 n (if (bI (sp_64 fi a 0 i)) = 0 then fi else (sp_63 fi a (6 + i) a (sp_65 fi a 0 i))) a (6 + i) ((((if (bI (sp_64 fi a 0 i)) = 0 then fi else (sp_63 fi a (6 + i) a (sp_65 fi a 0 i))) (8, a, 0) 2) ||| ((1 : Int32) <<< ((nI a) &&& 31))) &&& (((1 : Int32) <<< ((nI i) &&& 31)) ^^^ (-1 : Int32)))).toNatClampNeg) hs (by show _ ∨ _; omega) (by omega)) ?_
      refine pg_47_99 (sk9 hs (i := a) (k := 1) (by show _ ∨ _; omega)) (Nat.le_of_ble_eq_true rfl) (ct_63 (i := a) (k := 1) (p := i) (x := (sp_65 (if (bI (sp_64 fi a 0 i)) = 0 then fi else (sp_63 fi a (6 + i) a (sp_65 fi a 0 i))) a (6 + i) ((sp_66 n (if (bI (sp_64 fi a 0 i)) = 0 then fi else (sp_63 fi a (6 + i) a (sp_65 fi a 0 i))) a (6 + i) ((((if (bI (sp_64 fi a 0 i)) = 0 then fi else (sp_63 fi a (6 + i) a (sp_65 fi a 0 i))) (8, a, 0) 2) ||| ((1 : Int32) <<< ((nI a) &&& 31))) &&& (((1 : Int32) <<< ((nI i) &&& 31)) ^^^ (-1 : Int32)))).toNatClampNeg))) hs (by show _ ∨ _; omega) (by omega)) ?_
      exact go_eq (hR.symm.trans (by unfold sp_47; try rw [if_neg hc1]; try rw [if_neg hc6]; all_goals rfl)) (pg_47_102)
  · refine pg_47_8 rfl ?_
    refine pg_47_9 (sk7 hs (i := a) (by omega)) (sr7_8 hs (i := a) (by omega)) ?_
    refine pg_47_12 rfl ?_
    refine pg_47_13 rfl ?_
    refine pg_47_14 (sk7 hs (i := a) (by omega)) ?_
    refine pg_47_17 (sk9 hs (i := a) (k := 1) (by show _ ∨ _; omega)) (Nat.le_of_ble_eq_true rfl) (ct_63 (i := a) (k := 1) (p := i) (x := (fi (7, a, 0) 2)) hs (by show _ ∨ _; omega) (by omega)) ?_
    exact go_eq (hR.symm.trans (by unfold sp_47; try rw [if_pos hc2]; all_goals rfl)) (pg_47_20)
-- 51: Node.insertInOrder
def sp_51_2 (a : Nat) (x : Int32) : Nat → FI → FI
  | 0, fi => xm_up fi (13, a, 0) 0 x
  | p + 1, fi => if fi (13, a, 0) p ≤ x then xm_up fi (13, a, 0) (p + 1) x else sp_51_2 a x p (xm_up fi (13, a, 0) (p + 1) (fi (13, a, 0) p))
def sp_51 (fi : FI) (a : Nat) (x : Int32) (p : Nat) : FI := sp_51_2 a x p fi
theorem kp_sp_51_2 (a : Nat) (x : Int32) : ∀ (p : Nat) (fi : FI), kp [1300] fi (sp_51_2 a x p fi) := by
  intro p
  induction p with
  | zero => exact fun fi => kp_up (kp_re [1300] fi) rfl
  | succ p ih =>
    intro fi
    rw [sp_51_2]
    split
    · exact kp_up (kp_re [1300] fi) rfl
    · exact kp_tr (kp_up (kp_re [1300] fi) rfl) rfl (ih _)
theorem kp_sp_51 (fi : FI) (a : Nat) (x : Int32) (p : Nat) : kp [1300] fi (sp_51 fi a x p) := kp_sp_51_2 a x p fi
theorem cl_51 {n : Nat} {E : xm_E} {c : Nat × Nat} {fl : FL} {r : xm_I → Nat → Option xm_I} {d : Nat} {a : Nat} {x y : Int32} (hs : sh n E c r) (ha : a < n) : ∀ (p : Nat) (fi : FI), p < n → xm_G E d true 51 2 [some (xm_r (7, a, 0)), some (xm_i x), some (xm_i y), some (xm_i (nI p))] [] (c, fi, fl, r) (.inl none, (c, sp_51_2 a x p fi, fl, r)) := by
  have hn := sh_n hs
  intro p
  induction p with
  | zero =>
    intro fi _
    refine pg_51_2 rfl ?_
    refine pg_51_3 (fun _ => ?_) (fun hc => absurd (by decide) hc)
    refine pg_51_38 rfl ?_
    refine pg_51_39 (sk7 hs ha) (sr7_9 hs ha) ?_
    refine pg_51_42 rfl ?_
    refine pg_51_43 rfl ?_
    refine pg_51_44 (sk13 hs ha) (i := 0) rfl (by omega) (by omega) ?_
    exact pg_51_45
  | succ p ih =>
    intro fi hp
    refine pg_51_2 rfl ?_
    refine pg_51_3 (fun hc => absurd hc (nI_nle (by omega) (by omega))) (fun _ => ?_)
    refine pg_51_6 rfl ?_
    refine pg_51_7 (sk7 hs ha) (sr7_9 hs ha) ?_
    refine pg_51_10 rfl ?_
    refine pg_51_11 ?_
    refine pg_51_12 ?_
    refine go_top (nI_pred p) ?_
    refine pg_51_13 (Or.inl (sk13 hs ha)) (i := p) rfl (by omega) (by omega) ?_
    refine pg_51_14 rfl ?_
    refine pg_51_15 (fun hc => ?_) (fun hc => ?_)
    · rw [sp_51_2, if_pos hc]
      refine pg_51_38 rfl ?_
      refine pg_51_39 (sk7 hs ha) (sr7_9 hs ha) ?_
      refine pg_51_42 rfl ?_
      refine pg_51_43 rfl ?_
      refine pg_51_44 (sk13 hs ha) (i := p + 1) rfl (by omega) (by omega) ?_
      exact pg_51_45
    · rw [sp_51_2, if_neg hc]
      refine pg_51_18 rfl ?_
      refine pg_51_19 (sk7 hs ha) (sr7_9 hs ha) ?_
      refine pg_51_22 rfl ?_
      refine pg_51_23 rfl ?_
      refine pg_51_24 (sk7 hs ha) (sr7_9 hs ha) ?_
      refine pg_51_27 rfl ?_
      refine pg_51_28 ?_
      refine pg_51_29 ?_
      refine go_top (nI_pred p) ?_
      refine pg_51_30 (Or.inl (sk13 hs ha)) (i := p) rfl (by omega) (by omega) ?_
      refine pg_51_31 (sk13 hs ha) (i := p + 1) rfl (by omega) (by omega) ?_
      refine pg_51_32 (y := nI p) (lv' := [some (xm_r (7, a, 0)), some (xm_i x), some (xm_i y), some (xm_i (nI p))]) rfl (nx_dec (e := 1) rfl (by decide) rfl) rfl ?_
      refine pg_51_35 ?_
      exact ih _ (by omega)
theorem ct_51 {n : Nat} {E : xm_E} {c : Nat × Nat} {fi : FI} {fl : FL} {r : xm_I → Nat → Option xm_I} {d : Nat} {a : Nat} {x : Int32} {p : Nat} (hs : sh n E c r) (ha : a < n) (hp : p < n) : xm_C E (d + 1) true 51 [xm_r (7, a, 0), xm_i x, xm_i (nI p)] (c, fi, fl, r) (.inl (none), (c, (sp_51 fi a x p), fl, r)) := by
  refine go_inr (by decide) (Nat.le_of_ble_eq_true rfl) ?_
  show xm_G E (d + 0) true 51 0 [some (xm_r (7, a, 0)), some (xm_i x), some (xm_i (nI p)), none] [] (c, fi, fl, r) _
  refine pg_51_0 rfl ?_
  refine pg_51_1 (lv' := [some (xm_r (7, a, 0)), some (xm_i x), some (xm_i (nI p)), some (xm_i (nI p))]) rfl ?_
  exact cl_51 hs ha p fi hp
-- 49: Node.orderAgreements
def sp_49_4 (a : Nat) (i1 : Nat) (s1 : Nat × FI) : Nat × FI := if (bI (sp_50 s1.2 a i1)) = 0 then ((s1.1, s1.2)) else (if (bI (sp_64 s1.2 a 1 i1)) = 0 then ((s1.1, s1.2)) else ((s1.1 + 1, (sp_51 s1.2 a (sp_65 s1.2 a 1 i1) s1.1))))
theorem kp_sp_49_4 (a : Nat) (i1 : Nat) (s1 : Nat × FI) : kp [1300] s1.2 ((sp_49_4 a i1 s1).2) := by
  unfold sp_49_4
  rcases Classical.em ((bI (sp_50 s1.2 a i1)) = 0) with hc | hc
  · (try rw [if_pos hc])
    exact (kp_re [1300] s1.2)
  · (try rw [if_neg hc])
    rcases Classical.em ((bI (sp_64 s1.2 a 1 i1)) = 0) with hc | hc
    · (try rw [if_pos hc])
      exact (kp_re [1300] s1.2)
    · (try rw [if_neg hc])
      exact (kp_tr (kp_re [1300] s1.2) rfl (kp_sp_51 s1.2 a (sp_65 s1.2 a 1 i1) s1.1))
def sp_49 (n : Nat) (fi : FI) (a : Nat) : Nat × FI := (((lq_it n (sp_49_4 a) (0, fi)).1), ((lq_it n (sp_49_4 a) (0, fi)).2))
theorem kp_sp_49 (n : Nat) (fi : FI) (a : Nat) : kp [1300] fi ((sp_49 n fi a).2) := by
  unfold sp_49
  exact (kp_tr (kp_re [1300] fi) rfl (kp_it (L := [1300]) (p := fun (s : Nat × FI) => s.2) (N := n) (F := sp_49_4 a) (s0 := (0, fi)) (kp_re [1300] fi) (fun i s => kp_sp_49_4 a i s)))
set_option maxRecDepth 4000 in
theorem ct_49 {n : Nat} {E : xm_E} {c : Nat × Nat} {fi : FI} {fl : FL} {r : xm_I → Nat → Option xm_I} {d : Nat} {a : Nat} (hs : sh n E c r) (ha : a < n) (hf : fz n fi) : xm_C E (d + 2) true 49 [xm_r (7, a, 0)] (c, fi, fl, r) (.inl (some (xm_i (nI ((sp_49 n fi a).1)))), (c, (sp_49 n fi a).2, fl, r)) := by
  have hn := sh_n hs
  suffices key : ∀ R : xm_O, ((.inl (some (xm_i (nI ((sp_49 n fi a).1)))), (c, (sp_49 n fi a).2, fl, r)) : xm_O) = R → xm_G E (d + 1) true 49 0 [some (xm_r (7, a, 0)), none, none] [] (c, fi, fl, r) R from go_inr (by decide) (Nat.le_of_ble_eq_true rfl) (key _ rfl)
  intro R hR
  refine pg_49_0 ?_
  refine pg_49_1 (lv' := [some (xm_r (7, a, 0)), some (xm_i (0 : Int32)), none]) rfl ?_
  refine pg_49_2 ?_
  refine pg_49_3 (lv' := [some (xm_r (7, a, 0)), some (xm_i (0 : Int32)), some (xm_i (0 : Int32))]) rfl ?_
  refine (lq_li (N := n) (f := sp_49_4 a) (s0 := (0, fi)) (P := fun i1 s1 => xm_G E (d + 1) true 49 4 [some (xm_r (7, a, 0)), some (xm_i (nI s1.1)), some (xm_i (nI i1))] [] (c, s1.2, fl, r) R) (I := fun i1 s1 => kp [1300] fi s1.2 ∧ s1.1 ≤ i1) (⟨kp_re [1300] _, Nat.le_refl 0⟩) (fun i1 s1 hi1 hz => by obtain ⟨hk1, hv1⟩ := hz; exact ⟨kp_tr hk1 rfl (kp_sp_49_4 a i1 s1), (by have := hv1; unfold sp_49_4; (repeat' split) <;> (try simp only []) <;> omega)⟩) ?_ ?_)
  · intro i1 s1 hi1 hz K1
    obtain ⟨hk1, hv1⟩ := hz
    show xm_G E (d + 1) true 49 4 [some (xm_r (7, a, 0)), some (xm_i (nI s1.1)), some (xm_i (nI i1))] [] (c, s1.2, fl, r) R
    refine pg_49_4 rfl ?_
    refine pg_49_5 rfl ?_
    refine pg_49_6 (sk7 hs (i := a) (by omega)) ?_
    refine go_top (y := nI n) ((fz_kp hf (kp_tr (kp_tr (kp_re [1300] fi) rfl hk1) rfl (kp_re [1300] s1.2)) rfl rfl rfl).1 a (by omega)).2 ?_
    refine pg_49_9 (fun hc => absurd hc (nx_nle (a := i1) (b := n) rfl rfl (by omega) (by omega))) (fun _ => ?_)
    refine pg_49_12 rfl ?_
    refine pg_49_13 rfl ?_
    refine pg_49_14 (sk7 hs (i := a) (by omega)) (Nat.le_of_ble_eq_true rfl) (ct_50 (a := a) (i := i1) hs (by omega)) ?_
    refine pg_49_17 (fun hc1 => ?_) (fun hc2 => ?_)
    · refine pg_49_47 (y := (nI (i1 + 1))) (lv' := [some (xm_r (7, a, 0)), some (xm_i (nI s1.1)), some (xm_i (nI (i1 + 1)))]) rfl (nI_1 i1) rfl ?_
      refine pg_49_50 ?_
      exact K1 (s1.1, s1.2) (by unfold sp_49_4; try rw [if_pos hc1]; all_goals rfl)
    · refine pg_49_20 rfl ?_
      refine pg_49_21 (sk7 hs (i := a) (by omega)) (sr7_8 hs (i := a) (by omega)) ?_
      refine pg_49_24 rfl ?_
      refine pg_49_25 (sk9 hs (i := a) (k := 1) (by show _ ∨ _; omega)) (Nat.le_of_ble_eq_true rfl) (ct_64 (i := a) (k := 1) (p := i1) hs (by show _ ∨ _; omega) (by omega)) ?_
      refine pg_49_28 (fun hc3 => ?_) (fun hc4 => ?_)
      · refine pg_49_47 (y := (nI (i1 + 1))) (lv' := [some (xm_r (7, a, 0)), some (xm_i (nI s1.1)), some (xm_i (nI (i1 + 1)))]) rfl (nI_1 i1) rfl ?_
        refine pg_49_50 ?_
        exact K1 (s1.1, s1.2) (by unfold sp_49_4; try rw [if_neg hc2]; try rw [if_pos hc3]; all_goals rfl)
      · refine pg_49_31 rfl ?_
        refine pg_49_32 rfl ?_
        refine pg_49_33 (sk7 hs (i := a) (by omega)) (sr7_8 hs (i := a) (by omega)) ?_
        refine pg_49_36 rfl ?_
        refine pg_49_37 (sk9 hs (i := a) (k := 1) (by show _ ∨ _; omega)) (Nat.le_of_ble_eq_true rfl) (ct_65 (i := a) (k := 1) (p := i1) hs (by show _ ∨ _; omega) (by omega)) ?_
        refine pg_49_40 rfl ?_
        refine pg_49_41 (sk7 hs (i := a) (by omega)) (Nat.le_of_ble_eq_true rfl) (ct_51 (a := a) (x := (sp_65 s1.2 a 1 i1)) (p := s1.1) hs (by omega) (by omega)) ?_
        refine pg_49_44 (y := (nI (s1.1 + 1))) (lv' := [some (xm_r (7, a, 0)), some (xm_i (nI (s1.1 + 1))), some (xm_i (nI i1))]) rfl (nI_1 s1.1) rfl ?_
        refine pg_49_47 (y := (nI (i1 + 1))) (lv' := [some (xm_r (7, a, 0)), some (xm_i (nI (s1.1 + 1))), some (xm_i (nI (i1 + 1)))]) rfl (nI_1 i1) rfl ?_
        refine pg_49_50 ?_
        exact K1 (s1.1 + 1, (sp_51 s1.2 a (sp_65 s1.2 a 1 i1) s1.1)) (by unfold sp_49_4; try rw [if_neg hc2]; try rw [if_neg hc4]; all_goals rfl)
  · intro hz
    obtain ⟨hd1x5, wv4⟩ := hz
    show xm_G E (d + 1) true 49 4 [some (xm_r (7, a, 0)), some (xm_i (nI ((lq_it n (sp_49_4 a) (0, fi)).1))), some (xm_i (nI n))] [] (c, ((lq_it n (sp_49_4 a) (0, fi)).2), fl, r) R
    refine pg_49_4 rfl ?_
    refine pg_49_5 rfl ?_
    refine pg_49_6 (sk7 hs (i := a) (by omega)) ?_
    refine go_top (y := nI n) ((fz_kp hf (kp_tr (kp_re [1300] fi) rfl (kp_it (L := [1300]) (p := fun (s : Nat × FI) => s.2) (N := n) (F := sp_49_4 a) (s0 := (0, fi)) (kp_re [1300] fi) (fun i s => kp_sp_49_4 a i s))) rfl rfl rfl).1 a (by omega)).2 ?_
    refine pg_49_9 (fun _ => ?_) (fun hc => absurd (nx_le (a := n) (b := n) rfl rfl (by omega) (by omega)) hc)
    refine pg_49_53 rfl ?_
    exact go_eq (hR.symm.trans (by unfold sp_49; all_goals rfl)) (pg_49_54)
theorem le_49_4 (n : Nat) (fi : FI) (a : Nat) : ∀ m, (lq_it m (sp_49_4 a) ((0, fi) : Nat × FI)).1 ≤ m := by
  intro m
  induction m with
  | zero => exact Nat.le_refl 0
  | succ m ih =>
    show (sp_49_4 a m (lq_it m (sp_49_4 a) ((0, fi) : Nat × FI))).1 ≤ m + 1
    generalize lq_it m (sp_49_4 a) ((0, fi) : Nat × FI) = s1 at ih
    unfold sp_49_4
    (repeat' split) <;> (try simp only []) <;> omega
theorem le_49 (n : Nat) (fi : FI) (a : Nat) : (sp_49 n fi a).1 ≤ n := le_49_4 n fi a n
-- 48: Node.control
def sp_48_mid (n : Nat) (fi : FI) (a : Nat) : Int32 := (((sp_49 n fi a).2) (13, a, 0) (((sp_49 n fi a).1 - 1) / 2))
def sp_48_e (n : Nat) (fi : FI) (a : Nat) : Int64 := (sp_19 (((((sp_49 n fi a).2) (1, 0, 0) 1).toInt64) - ((sp_48_mid n fi a).toInt64)) (-2147483648 : Int64) (2147483647 : Int64))
def sp_48_i (n : Nat) (fi : FI) (fl : FL) (a : Nat) : Int64 := (sp_19 (((((sp_49 n fi a).2) (8, a, 0) 0).toInt64) + (((fl (1, 0, 0) 3) * (sp_48_e n fi a)) >>> ((16 : Int32).toInt64 &&& 63))) (-16777216 : Int64) (16777216 : Int64))
def sp_48_ch (n : Nat) (fi : FI) (a : Nat) : Int64 := ((sp_48_e n fi a) - ((((sp_49 n fi a).2) (8, a, 0) 1).toInt64))
def sp_48_u (n : Nat) (fi : FI) (fl : FL) (a : Nat) : Int64 := (((((fl (1, 0, 0) 2) * (sp_48_e n fi a)) >>> ((16 : Int32).toInt64 &&& 63)) + (sp_48_i n fi fl a)) + (((fl (1, 0, 0) 4) * (sp_48_ch n fi a)) >>> ((16 : Int32).toInt64 &&& 63)))
def sp_48 (n : Nat) (fi : FI) (fl : FL) (a : Nat) : FI := if (nI ((sp_49 n fi a).1)) = 0 then (((sp_49 n fi a).2)) else ((xm_up (xm_up (xm_up (xm_up ((sp_49 n fi a).2) (8, a, 0) 0 (if (bI (if (lg_cmp (sp_48_u n fi fl a) (16777216 : Int64)) ≤ 0 then (if 0 ≤ (lg_cmp (sp_48_u n fi fl a) (-16777216 : Int64)) then false else (if 0 ≤ (lg_cmp (sp_48_e n fi a) (0 : Int64)) then false else true)) else (if 0 < (lg_cmp (sp_48_e n fi a) (0 : Int64)) then true else (if 0 ≤ (lg_cmp (sp_48_u n fi fl a) (-16777216 : Int64)) then false else (if 0 ≤ (lg_cmp (sp_48_e n fi a) (0 : Int64)) then false else true))))) = 0 then ((sp_48_i n fi fl a).toInt32) else (((sp_49 n fi a).2) (8, a, 0) 0))) (8, a, 0) 1 ((sp_48_e n fi a).toInt32)) (7, a, 0) 12 ((sp_19 (sp_48_u n fi fl a) (-16777216 : Int64) (16777216 : Int64)).toInt32)) (7, a, 0) 11 (1 : Int32)))
theorem kp_sp_48 (n : Nat) (fi : FI) (fl : FL) (a : Nat) : kp [711, 712, 800, 1300] fi (sp_48 n fi fl a) := by
  unfold sp_48
  rcases Classical.em ((nI ((sp_49 n fi a).1)) = 0) with hc | hc
  · (try rw [if_pos hc])
    exact (kp_tr (kp_re [711, 712, 800, 1300] fi) rfl (kp_sp_49 n fi a))
  · (try rw [if_neg hc])
    exact (kp_up (kp_up (kp_up (kp_up (kp_tr (kp_re [711, 712, 800, 1300] fi) rfl (kp_sp_49 n fi a)) rfl) rfl) rfl) rfl)
set_option maxRecDepth 4000 in
theorem ct_48 {n : Nat} {E : xm_E} {c : Nat × Nat} {fi : FI} {fl : FL} {r : xm_I → Nat → Option xm_I} {d : Nat} {a : Nat} (hs : sh n E c r) (ha : a < n) (hf : fz n fi) : xm_C E (d + 3) true 48 [xm_r (7, a, 0), xm_r (1, 0, 0)] (c, fi, fl, r) (.inl (none), (c, (sp_48 n fi fl a), fl, r)) := by
  have hn := sh_n hs
  suffices key : ∀ R : xm_O, ((.inl (none), (c, (sp_48 n fi fl a), fl, r)) : xm_O) = R → xm_G E (d + 2) true 48 0 [some (xm_r (7, a, 0)), some (xm_r (1, 0, 0)), none, none, none, none, none, none, none, none, none, none, none] [] (c, fi, fl, r) R from go_inr (by decide) (Nat.le_of_ble_eq_true rfl) (key _ rfl)
  intro R hR
  refine pg_48_0 rfl ?_
  refine pg_48_1 (sk7 hs (i := a) (by omega)) (Nat.le_of_ble_eq_true rfl) (ct_49 (a := a) hs (by omega) (fz_kp hf (kp_re [711, 712, 800, 1300] fi) rfl rfl rfl)) ?_
  refine pg_48_4 (lv' := [some (xm_r (7, a, 0)), some (xm_r (1, 0, 0)), some (xm_i (nI ((sp_49 n fi a).1))), none, none, none, none, none, none, none, none, none, none]) rfl ?_
  refine pg_48_5 rfl ?_
  refine pg_48_6 (fun hc1 => ?_) (fun hc2 => ?_)
  · have hm := le_49 n fi a
    have hc48 := hc1
    have hz48 : (sp_49 n fi a).1 ≠ 0 := fun z => hc48 (by rw [z]; rfl)
    refine pg_48_10 rfl ?_
    refine pg_48_11 (sk7 hs (i := a) (by omega)) (sr7_9 hs (i := a) (by omega)) ?_
    refine pg_48_14 rfl ?_
    refine pg_48_15 ?_
    refine pg_48_16 ?_
    refine pg_48_17 ?_
    refine pg_48_18 (by decide) ?_
    refine pg_48_19 (Or.inl (sk13 hs (i := a) (by omega))) (i := (((sp_49 n fi a).1 - 1) / 2)) (nx_half hc48 (by have := le_49 n fi a; omega)) (by omega) (by omega) ?_
    refine pg_48_20 (lv' := [some (xm_r (7, a, 0)), some (xm_r (1, 0, 0)), some (xm_i (nI ((sp_49 n fi a).1))), some (xm_i (sp_48_mid n fi a)), none, none, none, none, none, none, none, none, none]) rfl ?_
    refine pg_48_21 rfl ?_
    refine pg_48_22 (sk1 hs) ?_
    refine pg_48_25 ?_
    refine pg_48_26 rfl ?_
    refine pg_48_27 ?_
    refine pg_48_28 ?_
    refine pg_48_29 ?_
    refine pg_48_32 ?_
    refine pg_48_35 (Nat.le_of_ble_eq_true rfl) (ct_19 (v := (((((sp_49 n fi a).2) (1, 0, 0) 1).toInt64) - ((sp_48_mid n fi a).toInt64))) (a := (-2147483648 : Int64)) (b := (2147483647 : Int64))) ?_
    refine pg_48_38 (lv' := [some (xm_r (7, a, 0)), some (xm_r (1, 0, 0)), some (xm_i (nI ((sp_49 n fi a).1))), some (xm_i (sp_48_mid n fi a)), some (xm_l (sp_48_e n fi a)), none, none, none, none, none, none, none, none]) rfl ?_
    refine pg_48_40 rfl ?_
    refine pg_48_41 (sk7 hs (i := a) (by omega)) (sr7_4 hs (i := a) (by omega)) ?_
    refine pg_48_44 ?_
    refine pg_48_45 (Or.inl (sk8 hs (i := a) (by omega))) (i := 0) (rfl : (0 : Int32) = nI 0) (by omega) (by omega) ?_
    refine pg_48_46 ?_
    refine pg_48_47 rfl ?_
    refine pg_48_48 (sk1 hs) ?_
    refine pg_48_51 rfl ?_
    refine pg_48_53 ?_
    refine pg_48_54 ?_
    refine pg_48_56 ?_
    refine pg_48_57 ?_
    refine pg_48_58 ?_
    refine pg_48_61 ?_
    refine pg_48_64 (Nat.le_of_ble_eq_true rfl) (ct_19 (v := (((((sp_49 n fi a).2) (8, a, 0) 0).toInt64) + (((fl (1, 0, 0) 3) * (sp_48_e n fi a)) >>> ((16 : Int32).toInt64 &&& 63)))) (a := (-16777216 : Int64)) (b := (16777216 : Int64))) ?_
    refine pg_48_67 (lv' := [some (xm_r (7, a, 0)), some (xm_r (1, 0, 0)), some (xm_i (nI ((sp_49 n fi a).1))), some (xm_i (sp_48_mid n fi a)), some (xm_l (sp_48_e n fi a)), none, some (xm_l (sp_48_i n fi fl a)), none, none, none, none, none, none]) rfl ?_
    refine pg_48_69 rfl ?_
    refine pg_48_71 rfl ?_
    refine pg_48_72 (sk7 hs (i := a) (by omega)) (sr7_4 hs (i := a) (by omega)) ?_
    refine pg_48_75 ?_
    refine pg_48_76 (Or.inl (sk8 hs (i := a) (by omega))) (i := 1) (rfl : (1 : Int32) = nI 1) (by omega) (by omega) ?_
    refine pg_48_77 ?_
    refine pg_48_78 ?_
    refine pg_48_79 (lv' := [some (xm_r (7, a, 0)), some (xm_r (1, 0, 0)), some (xm_i (nI ((sp_49 n fi a).1))), some (xm_i (sp_48_mid n fi a)), some (xm_l (sp_48_e n fi a)), none, some (xm_l (sp_48_i n fi fl a)), none, some (xm_l (sp_48_ch n fi a)), none, none, none, none]) rfl ?_
    refine pg_48_81 rfl ?_
    refine pg_48_82 (sk1 hs) ?_
    refine pg_48_85 rfl ?_
    refine pg_48_87 ?_
    refine pg_48_88 ?_
    refine pg_48_90 ?_
    refine pg_48_91 rfl ?_
    refine pg_48_93 ?_
    refine pg_48_94 rfl ?_
    refine pg_48_95 (sk1 hs) ?_
    refine pg_48_98 rfl ?_
    refine pg_48_100 ?_
    refine pg_48_101 ?_
    refine pg_48_103 ?_
    refine pg_48_104 ?_
    refine pg_48_105 (lv' := [some (xm_r (7, a, 0)), some (xm_r (1, 0, 0)), some (xm_i (nI ((sp_49 n fi a).1))), some (xm_i (sp_48_mid n fi a)), some (xm_l (sp_48_e n fi a)), none, some (xm_l (sp_48_i n fi fl a)), none, some (xm_l (sp_48_ch n fi a)), none, some (xm_l (sp_48_u n fi fl a)), none, none]) rfl ?_
    suffices KJ : xm_G E (d + 2) true 48 144 [some (xm_r (7, a, 0)), some (xm_r (1, 0, 0)), some (xm_i (nI ((sp_49 n fi a).1))), some (xm_i (sp_48_mid n fi a)), some (xm_l (sp_48_e n fi a)), none, some (xm_l (sp_48_i n fi fl a)), none, some (xm_l (sp_48_ch n fi a)), none, some (xm_l (sp_48_u n fi fl a)), none, none] [xm_i (bI (if (lg_cmp (sp_48_u n fi fl a) (16777216 : Int64)) ≤ 0 then (if 0 ≤ (lg_cmp (sp_48_u n fi fl a) (-16777216 : Int64)) then false else (if 0 ≤ (lg_cmp (sp_48_e n fi a) (0 : Int64)) then false else true)) else (if 0 < (lg_cmp (sp_48_e n fi a) (0 : Int64)) then true else (if 0 ≤ (lg_cmp (sp_48_u n fi fl a) (-16777216 : Int64)) then false else (if 0 ≤ (lg_cmp (sp_48_e n fi a) (0 : Int64)) then false else true)))))] (c, ((sp_49 n fi a).2), fl, r) R by
      refine pg_48_107 rfl ?_
      refine pg_48_109 ?_
      refine pg_48_112 ?_
      refine pg_48_113 (fun hc3 => ?_) (fun hc4 => ?_)
      · refine pg_48_123 rfl ?_
        refine pg_48_125 ?_
        refine pg_48_128 ?_
        refine pg_48_129 (fun hc5 => ?_) (fun hc6 => ?_)
        · refine pg_48_143 ?_
          repeat rw [if_pos hc3] at KJ
          repeat rw [if_pos hc5] at KJ
          repeat rw [if_pos hc3]
          repeat rw [if_pos hc5]
          exact KJ
        · refine pg_48_132 rfl ?_
          refine pg_48_134 ?_
          refine pg_48_135 ?_
          refine pg_48_136 (fun hc7 => ?_) (fun hc8 => ?_)
          · refine pg_48_143 ?_
            repeat rw [if_pos hc3] at KJ
            repeat rw [if_neg hc6] at KJ
            repeat rw [if_pos hc7] at KJ
            repeat rw [if_pos hc3]
            repeat rw [if_neg hc6]
            repeat rw [if_pos hc7]
            exact KJ
          · refine pg_48_139 ?_
            refine pg_48_140 ?_
            repeat rw [if_pos hc3] at KJ
            repeat rw [if_neg hc6] at KJ
            repeat rw [if_neg hc8] at KJ
            repeat rw [if_pos hc3]
            repeat rw [if_neg hc6]
            repeat rw [if_neg hc8]
            exact KJ
      · refine pg_48_116 rfl ?_
        refine pg_48_118 ?_
        refine pg_48_119 ?_
        refine pg_48_120 (fun hc9 => ?_) (fun hc10 => ?_)
        · refine pg_48_139 ?_
          refine pg_48_140 ?_
          repeat rw [if_neg hc4] at KJ
          repeat rw [if_pos hc9] at KJ
          repeat rw [if_neg hc4]
          repeat rw [if_pos hc9]
          exact KJ
        · refine pg_48_123 rfl ?_
          refine pg_48_125 ?_
          refine pg_48_128 ?_
          refine pg_48_129 (fun hc11 => ?_) (fun hc12 => ?_)
          · refine pg_48_143 ?_
            repeat rw [if_neg hc4] at KJ
            repeat rw [if_neg hc10] at KJ
            repeat rw [if_pos hc11] at KJ
            repeat rw [if_neg hc4]
            repeat rw [if_neg hc10]
            repeat rw [if_pos hc11]
            exact KJ
          · refine pg_48_132 rfl ?_
            refine pg_48_134 ?_
            refine pg_48_135 ?_
            refine pg_48_136 (fun hc13 => ?_) (fun hc14 => ?_)
            · refine pg_48_143 ?_
              repeat rw [if_neg hc4] at KJ
              repeat rw [if_neg hc10] at KJ
              repeat rw [if_neg hc12] at KJ
              repeat rw [if_pos hc13] at KJ
              repeat rw [if_neg hc4]
              repeat rw [if_neg hc10]
              repeat rw [if_neg hc12]
              repeat rw [if_pos hc13]
              exact KJ
            · refine pg_48_139 ?_
              refine pg_48_140 ?_
              repeat rw [if_neg hc4] at KJ
              repeat rw [if_neg hc10] at KJ
              repeat rw [if_neg hc12] at KJ
              repeat rw [if_neg hc14] at KJ
              repeat rw [if_neg hc4]
              repeat rw [if_neg hc10]
              repeat rw [if_neg hc12]
              repeat rw [if_neg hc14]
              exact KJ
    refine pg_48_144 (lv' := [some (xm_r (7, a, 0)), some (xm_r (1, 0, 0)), some (xm_i (nI ((sp_49 n fi a).1))), some (xm_i (sp_48_mid n fi a)), some (xm_l (sp_48_e n fi a)), none, some (xm_l (sp_48_i n fi fl a)), none, some (xm_l (sp_48_ch n fi a)), none, some (xm_l (sp_48_u n fi fl a)), none, some (xm_i (bI (if (lg_cmp (sp_48_u n fi fl a) (16777216 : Int64)) ≤ 0 then (if 0 ≤ (lg_cmp (sp_48_u n fi fl a) (-16777216 : Int64)) then false else (if 0 ≤ (lg_cmp (sp_48_e n fi a) (0 : Int64)) then false else true)) else (if 0 < (lg_cmp (sp_48_e n fi a) (0 : Int64)) then true else (if 0 ≤ (lg_cmp (sp_48_u n fi fl a) (-16777216 : Int64)) then false else (if 0 ≤ (lg_cmp (sp_48_e n fi a) (0 : Int64)) then false else true))))))]) rfl ?_
    suffices KJ : xm_G E (d + 2) true 48 160 [some (xm_r (7, a, 0)), some (xm_r (1, 0, 0)), some (xm_i (nI ((sp_49 n fi a).1))), some (xm_i (sp_48_mid n fi a)), some (xm_l (sp_48_e n fi a)), none, some (xm_l (sp_48_i n fi fl a)), none, some (xm_l (sp_48_ch n fi a)), none, some (xm_l (sp_48_u n fi fl a)), none, some (xm_i (bI (if (lg_cmp (sp_48_u n fi fl a) (16777216 : Int64)) ≤ 0 then (if 0 ≤ (lg_cmp (sp_48_u n fi fl a) (-16777216 : Int64)) then false else (if 0 ≤ (lg_cmp (sp_48_e n fi a) (0 : Int64)) then false else true)) else (if 0 < (lg_cmp (sp_48_e n fi a) (0 : Int64)) then true else (if 0 ≤ (lg_cmp (sp_48_u n fi fl a) (-16777216 : Int64)) then false else (if 0 ≤ (lg_cmp (sp_48_e n fi a) (0 : Int64)) then false else true))))))] [] (c, (xm_up ((sp_49 n fi a).2) (8, a, 0) 0 (if (bI (if (lg_cmp (sp_48_u n fi fl a) (16777216 : Int64)) ≤ 0 then (if 0 ≤ (lg_cmp (sp_48_u n fi fl a) (-16777216 : Int64)) then false else (if 0 ≤ (lg_cmp (sp_48_e n fi a) (0 : Int64)) then false else true)) else (if 0 < (lg_cmp (sp_48_e n fi a) (0 : Int64)) then true else (if 0 ≤ (lg_cmp (sp_48_u n fi fl a) (-16777216 : Int64)) then false else (if 0 ≤ (lg_cmp (sp_48_e n fi a) (0 : Int64)) then false else true))))) = 0 then ((sp_48_i n fi fl a).toInt32) else (((sp_49 n fi a).2) (8, a, 0) 0))), fl, r) R by
      refine pg_48_146 rfl ?_
      refine pg_48_148 (fun hc15 => ?_) (fun hc16 => ?_)
      · repeat rw [if_neg hc15] at KJ
        repeat rw [if_neg hc15]
        (try rw [up_same] at KJ); exact KJ
      · refine pg_48_151 rfl ?_
        refine pg_48_152 (sk7 hs (i := a) (by omega)) (sr7_4 hs (i := a) (by omega)) ?_
        refine pg_48_155 ?_
        refine pg_48_156 rfl ?_
        refine pg_48_158 ?_
        refine pg_48_159 (sk8 hs (i := a) (by omega)) (i := 0) (rfl : (0 : Int32) = nI 0) (by omega) (by omega) ?_
        repeat rw [if_pos hc16] at KJ
        repeat rw [if_pos hc16]
        (try rw [up_same] at KJ); exact KJ
    refine pg_48_160 rfl ?_
    refine pg_48_161 (sk7 hs (i := a) (by omega)) (sr7_4 hs (i := a) (by omega)) ?_
    refine pg_48_164 ?_
    refine pg_48_165 rfl ?_
    refine pg_48_167 ?_
    refine pg_48_168 (sk8 hs (i := a) (by omega)) (i := 1) (rfl : (1 : Int32) = nI 1) (by omega) (by omega) ?_
    refine pg_48_169 rfl ?_
    refine pg_48_170 rfl ?_
    refine pg_48_172 ?_
    refine pg_48_175 ?_
    refine pg_48_178 (Nat.le_of_ble_eq_true rfl) (ct_19 (v := (sp_48_u n fi fl a)) (a := (-16777216 : Int64)) (b := (16777216 : Int64))) ?_
    refine pg_48_181 ?_
    refine pg_48_182 (sk7 hs (i := a) (by omega)) ?_
    refine pg_48_185 rfl ?_
    refine pg_48_186 ?_
    refine pg_48_187 (sk7 hs (i := a) (by omega)) (Or.inr rfl) ?_
    exact go_eq (hR.symm.trans (by unfold sp_48; try rw [if_neg hc1]; all_goals rfl)) (pg_48_190)
  · exact go_eq (hR.symm.trans (by unfold sp_48; try rw [if_pos hc2]; all_goals rfl)) (pg_48_9)
-- 52: Node.judge
def sp_52 (fi : FI) (a : Nat) (i : Nat) (x : Int32) : FI := if (bI (sp_50 fi a i)) = (bI (sp_64 fi a 1 i)) then ((sp_53 fi a i (0 : Int32))) else (if ((sp_54 fi a i) + (1 : Int32)) < (if (bI (sp_50 fi a i)) = 0 then (2 : Int32) else x) then ((sp_53 fi a i ((sp_54 fi a i) + (1 : Int32)))) else ((sp_53 (xm_up fi (8, a, 0) 2 ((fi (8, a, 0) 2) ^^^ ((1 : Int32) <<< ((nI i) &&& 31)))) a i (0 : Int32))))
theorem kp_sp_52 (fi : FI) (a : Nat) (i : Nat) (x : Int32) : kp [800] fi (sp_52 fi a i x) := by
  unfold sp_52
  rcases Classical.em ((bI (sp_50 fi a i)) = (bI (sp_64 fi a 1 i))) with hc | hc
  · (try rw [if_pos hc])
    exact (kp_tr (kp_re [800] fi) rfl (kp_sp_53 fi a i (0 : Int32)))
  · (try rw [if_neg hc])
    rcases Classical.em (((sp_54 fi a i) + (1 : Int32)) < (if (bI (sp_50 fi a i)) = 0 then (2 : Int32) else x)) with hc | hc
    · (try rw [if_pos hc])
      exact (kp_tr (kp_re [800] fi) rfl (kp_sp_53 fi a i ((sp_54 fi a i) + (1 : Int32))))
    · (try rw [if_neg hc])
      exact (kp_tr (kp_up (kp_re [800] fi) rfl) rfl (kp_sp_53 (xm_up fi (8, a, 0) 2 ((fi (8, a, 0) 2) ^^^ ((1 : Int32) <<< ((nI i) &&& 31)))) a i (0 : Int32)))
set_option maxRecDepth 4000 in
theorem ct_52 {n : Nat} {E : xm_E} {c : Nat × Nat} {fi : FI} {fl : FL} {r : xm_I → Nat → Option xm_I} {d : Nat} {a : Nat} {i : Nat} {x : Int32} (hs : sh n E c r) (ha : a < n) (hi : i < n) (hf : fz n fi) : xm_C E (d + 2) true 52 [xm_r (7, a, 0), xm_i (nI i), xm_i x] (c, fi, fl, r) (.inl (none), (c, (sp_52 fi a i x), fl, r)) := by
  have hn := sh_n hs
  suffices key : ∀ R : xm_O, ((.inl (none), (c, (sp_52 fi a i x), fl, r)) : xm_O) = R → xm_G E (d + 1) true 52 0 [some (xm_r (7, a, 0)), some (xm_i (nI i)), some (xm_i x), none, none] [] (c, fi, fl, r) R from go_inr (by decide) (Nat.le_of_ble_eq_true rfl) (key _ rfl)
  intro R hR
  refine pg_52_0 rfl ?_
  refine pg_52_1 rfl ?_
  refine pg_52_2 (sk7 hs (i := a) (by omega)) (Nat.le_of_ble_eq_true rfl) (ct_50 (a := a) (i := i) hs (by omega)) ?_
  refine pg_52_5 (lv' := [some (xm_r (7, a, 0)), some (xm_i (nI i)), some (xm_i x), some (xm_i (bI (sp_50 fi a i))), none]) rfl ?_
  refine pg_52_6 rfl ?_
  refine pg_52_7 rfl ?_
  refine pg_52_8 (sk7 hs (i := a) (by omega)) (sr7_8 hs (i := a) (by omega)) ?_
  refine pg_52_11 rfl ?_
  refine pg_52_12 (sk9 hs (i := a) (k := 1) (by show _ ∨ _; omega)) (Nat.le_of_ble_eq_true rfl) (ct_64 (i := a) (k := 1) (p := i) hs (by show _ ∨ _; omega) (by omega)) ?_
  refine pg_52_15 (fun hc1 => ?_) (fun hc2 => ?_)
  · refine pg_52_25 rfl ?_
    refine pg_52_26 rfl ?_
    refine pg_52_27 (sk7 hs (i := a) (by omega)) (Nat.le_of_ble_eq_true rfl) (ct_54 (a := a) (i := i) hs (by omega)) ?_
    refine pg_52_30 ?_
    refine pg_52_31 ?_
    refine pg_52_32 (lv' := [some (xm_r (7, a, 0)), some (xm_i (nI i)), some (xm_i x), some (xm_i (bI (sp_50 fi a i))), some (xm_i ((sp_54 fi a i) + (1 : Int32)))]) rfl ?_
    refine pg_52_34 rfl ?_
    suffices KJ : xm_G E (d + 1) true 52 45 [some (xm_r (7, a, 0)), some (xm_i (nI i)), some (xm_i x), some (xm_i (bI (sp_50 fi a i))), some (xm_i ((sp_54 fi a i) + (1 : Int32)))] [xm_i (if (bI (sp_50 fi a i)) = 0 then (2 : Int32) else x), xm_i ((sp_54 fi a i) + (1 : Int32))] (c, fi, fl, r) R by
      refine pg_52_36 rfl ?_
      refine pg_52_37 (fun hc3 => ?_) (fun hc4 => ?_)
      · refine pg_52_44 ?_
        repeat rw [if_pos hc3] at KJ
        repeat rw [if_pos hc3]
        exact KJ
      · refine pg_52_40 rfl ?_
        refine pg_52_41 ?_
        repeat rw [if_neg hc4] at KJ
        repeat rw [if_neg hc4]
        exact KJ
    refine pg_52_45 (fun hc5 => ?_) (fun hc6 => ?_)
    · refine pg_52_69 rfl ?_
      refine pg_52_70 rfl ?_
      refine pg_52_71 rfl ?_
      refine pg_52_73 (sk7 hs (i := a) (by omega)) (Nat.le_of_ble_eq_true rfl) (ct_53 (a := a) (i := i) (x := ((sp_54 fi a i) + (1 : Int32))) hs (by omega)) ?_
      exact go_eq (hR.symm.trans (by unfold sp_52; try rw [if_neg hc1]; try rw [if_pos hc5]; all_goals rfl)) (pg_52_76)
    · refine pg_52_48 rfl ?_
      refine pg_52_49 (sk7 hs (i := a) (by omega)) (sr7_4 hs (i := a) (by omega)) ?_
      refine pg_52_52 ?_
      refine pg_52_53 rfl rfl ?_
      refine pg_52_54 (Or.inl (sk8 hs (i := a) (by omega))) (i := 2) (rfl : (2 : Int32) = nI 2) (by omega) (by omega) ?_
      refine pg_52_55 ?_
      refine pg_52_56 rfl ?_
      refine pg_52_57 ?_
      refine pg_52_58 ?_
      refine pg_52_59 (sk8 hs (i := a) (by omega)) (i := 2) (rfl : (2 : Int32) = nI 2) (by omega) (by omega) ?_
      refine pg_52_60 rfl ?_
      refine pg_52_61 rfl ?_
      refine pg_52_62 ?_
      refine pg_52_63 (sk7 hs (i := a) (by omega)) (Nat.le_of_ble_eq_true rfl) (ct_53 (a := a) (i := i) (x := (0 : Int32)) hs (by omega)) ?_
      refine pg_52_66 ?_
      exact go_eq (hR.symm.trans (by unfold sp_52; try rw [if_neg hc1]; try rw [if_neg hc6]; all_goals rfl)) (pg_52_76)
  · refine pg_52_18 rfl ?_
    refine pg_52_19 rfl ?_
    refine pg_52_20 ?_
    refine pg_52_21 (sk7 hs (i := a) (by omega)) (Nat.le_of_ble_eq_true rfl) (ct_53 (a := a) (i := i) (x := (0 : Int32)) hs (by omega)) ?_
    exact go_eq (hR.symm.trans (by unfold sp_52; try rw [if_pos hc2]; all_goals rfl)) (pg_52_24)
-- 46: Node.workOut
def sp_46_2 (n : Nat) (a : Nat) (i1 : Nat) (s1 : FI) : FI := (sp_47 n s1 a i1)
theorem kp_sp_46_2 (n : Nat) (a : Nat) (i1 : Nat) (s1 : FI) : kp [900, 1000] s1 (sp_46_2 n a i1 s1) := by
  unfold sp_46_2
  exact (kp_tr (kp_re [900, 1000] s1) rfl (kp_sp_47 n s1 a i1))
def sp_46_28 (a : Nat) (i1 : Nat) (s1 : FI) : FI := (sp_52 s1 a i1 (s1 (1, 0, 0) 0))
theorem kp_sp_46_28 (a : Nat) (i1 : Nat) (s1 : FI) : kp [800] s1 (sp_46_28 a i1 s1) := by
  unfold sp_46_28
  exact (kp_tr (kp_re [800] s1) rfl (kp_sp_52 s1 a i1 (s1 (1, 0, 0) 0)))
def sp_46 (n : Nat) (fi : FI) (fl : FL) (a : Nat) : FI := (lq_it n (sp_46_28 a) (sp_48 n (lq_it n (sp_46_2 n a) fi) fl a))
theorem kp_sp_46 (n : Nat) (fi : FI) (fl : FL) (a : Nat) : kp [711, 712, 800, 900, 1000, 1300] fi (sp_46 n fi fl a) := by
  unfold sp_46
  exact (kp_tr (kp_tr (kp_tr (kp_re [711, 712, 800, 900, 1000, 1300] fi) rfl (kp_it (L := [900, 1000]) (p := fun (s : FI) => s) (N := n) (F := sp_46_2 n a) (s0 := fi) (kp_re [900, 1000] fi) (fun i s => kp_sp_46_2 n a i s))) rfl (kp_sp_48 n (lq_it n (sp_46_2 n a) fi) fl a)) rfl (kp_it (L := [800]) (p := fun (s : FI) => s) (N := n) (F := sp_46_28 a) (s0 := (sp_48 n (lq_it n (sp_46_2 n a) fi) fl a)) (kp_re [800] (sp_48 n (lq_it n (sp_46_2 n a) fi) fl a)) (fun i s => kp_sp_46_28 a i s)))
set_option maxRecDepth 4000 in
theorem ct_46 {n : Nat} {E : xm_E} {c : Nat × Nat} {fi : FI} {fl : FL} {r : xm_I → Nat → Option xm_I} {d : Nat} {a : Nat} (hs : sh n E c r) (ha : a < n) (hf : fz n fi) : xm_C E (d + 4) true 46 [xm_r (7, a, 0), xm_r (1, 0, 0)] (c, fi, fl, r) (.inl (none), (c, (sp_46 n fi fl a), fl, r)) := by
  have hn := sh_n hs
  suffices key : ∀ R : xm_O, ((.inl (none), (c, (sp_46 n fi fl a), fl, r)) : xm_O) = R → xm_G E (d + 3) true 46 0 [some (xm_r (7, a, 0)), some (xm_r (1, 0, 0)), none] [] (c, fi, fl, r) R from go_inr (by decide) (Nat.le_of_ble_eq_true rfl) (key _ rfl)
  intro R hR
  refine pg_46_0 ?_
  refine pg_46_1 (lv' := [some (xm_r (7, a, 0)), some (xm_r (1, 0, 0)), some (xm_i (0 : Int32))]) rfl ?_
  refine (lq_li (N := n) (f := sp_46_2 n a) (s0 := fi) (P := fun i1 s1 => xm_G E (d + 3) true 46 2 [some (xm_r (7, a, 0)), some (xm_r (1, 0, 0)), some (xm_i (nI i1))] [] (c, s1, fl, r) R) (I := fun i1 s1 => kp [900, 1000] fi s1) (kp_re [900, 1000] _) (fun i1 s1 hi1 hk1 => kp_tr hk1 rfl (kp_sp_46_2 n a i1 s1)) ?_ ?_)
  · intro i1 s1 hi1 hk1 K1
    show xm_G E (d + 3) true 46 2 [some (xm_r (7, a, 0)), some (xm_r (1, 0, 0)), some (xm_i (nI i1))] [] (c, s1, fl, r) R
    refine pg_46_2 rfl ?_
    refine pg_46_3 rfl ?_
    refine pg_46_4 (sk7 hs (i := a) (by omega)) ?_
    refine go_top (y := nI n) ((fz_kp hf (kp_tr (kp_tr (kp_re [711, 712, 800, 900, 1000, 1300] fi) rfl hk1) rfl (kp_re [900, 1000] s1)) rfl rfl rfl).1 a (by omega)).2 ?_
    refine pg_46_7 (fun hc => absurd hc (nx_nle (a := i1) (b := n) rfl rfl (by omega) (by omega))) (fun _ => ?_)
    refine pg_46_10 rfl ?_
    refine pg_46_11 rfl ?_
    refine pg_46_12 (sk7 hs (i := a) (by omega)) (Nat.le_of_ble_eq_true rfl) (ct_47 (a := a) (i := i1) hs (by omega) (by omega) (fz_kp hf (kp_tr (kp_tr (kp_re [711, 712, 800, 900, 1000, 1300] fi) rfl hk1) rfl (kp_re [900, 1000] s1)) rfl rfl rfl)) ?_
    refine pg_46_15 (y := (nI (i1 + 1))) (lv' := [some (xm_r (7, a, 0)), some (xm_r (1, 0, 0)), some (xm_i (nI (i1 + 1)))]) rfl (nI_1 i1) rfl ?_
    refine pg_46_18 ?_
    exact K1 (sp_47 n s1 a i1) (by unfold sp_46_2; all_goals rfl)
  · intro hd1x1
    show xm_G E (d + 3) true 46 2 [some (xm_r (7, a, 0)), some (xm_r (1, 0, 0)), some (xm_i (nI n))] [] (c, (lq_it n (sp_46_2 n a) fi), fl, r) R
    refine pg_46_2 rfl ?_
    refine pg_46_3 rfl ?_
    refine pg_46_4 (sk7 hs (i := a) (by omega)) ?_
    refine go_top (y := nI n) ((fz_kp hf (kp_tr (kp_re [711, 712, 800, 900, 1000, 1300] fi) rfl (kp_it (L := [900, 1000]) (p := fun (s : FI) => s) (N := n) (F := sp_46_2 n a) (s0 := fi) (kp_re [900, 1000] fi) (fun i s => kp_sp_46_2 n a i s))) rfl rfl rfl).1 a (by omega)).2 ?_
    refine pg_46_7 (fun _ => ?_) (fun hc => absurd (nx_le (a := n) (b := n) rfl rfl (by omega) (by omega)) hc)
    refine pg_46_21 rfl ?_
    refine pg_46_22 rfl ?_
    refine pg_46_23 (sk7 hs (i := a) (by omega)) (Nat.le_of_ble_eq_true rfl) (ct_48 (a := a) hs (by omega) (fz_kp hf (kp_tr (kp_re [711, 712, 800, 900, 1000, 1300] fi) rfl (kp_it (L := [900, 1000]) (p := fun (s : FI) => s) (N := n) (F := sp_46_2 n a) (s0 := fi) (kp_re [900, 1000] fi) (fun i s => kp_sp_46_2 n a i s))) rfl rfl rfl)) ?_
    refine pg_46_26 ?_
    refine pg_46_27 (lv' := [some (xm_r (7, a, 0)), some (xm_r (1, 0, 0)), some (xm_i (0 : Int32))]) rfl ?_
    refine (lq_li (N := n) (f := sp_46_28 a) (s0 := (sp_48 n (lq_it n (sp_46_2 n a) fi) fl a)) (P := fun i1 s1 => xm_G E (d + 3) true 46 28 [some (xm_r (7, a, 0)), some (xm_r (1, 0, 0)), some (xm_i (nI i1))] [] (c, s1, fl, r) R) (I := fun i1 s1 => kp [800] (sp_48 n (lq_it n (sp_46_2 n a) fi) fl a) s1) (kp_re [800] _) (fun i1 s1 hi1 hk1 => kp_tr hk1 rfl (kp_sp_46_28 a i1 s1)) ?_ ?_)
    · intro i1 s1 hi1 hk1 K1
      show xm_G E (d + 3) true 46 28 [some (xm_r (7, a, 0)), some (xm_r (1, 0, 0)), some (xm_i (nI i1))] [] (c, s1, fl, r) R
      refine pg_46_28 rfl ?_
      refine pg_46_29 rfl ?_
      refine pg_46_30 (sk7 hs (i := a) (by omega)) ?_
      refine go_top (y := nI n) ((fz_kp hf (kp_tr (kp_tr (kp_tr (kp_tr (kp_re [711, 712, 800, 900, 1000, 1300] fi) rfl (kp_it (L := [900, 1000]) (p := fun (s : FI) => s) (N := n) (F := sp_46_2 n a) (s0 := fi) (kp_re [900, 1000] fi) (fun i s => kp_sp_46_2 n a i s))) rfl (kp_sp_48 n (lq_it n (sp_46_2 n a) fi) fl a)) rfl hk1) rfl (kp_re [800] s1)) rfl rfl rfl).1 a (by omega)).2 ?_
      refine pg_46_33 (fun hc => absurd hc (nx_nle (a := i1) (b := n) rfl rfl (by omega) (by omega))) (fun _ => ?_)
      refine pg_46_36 rfl ?_
      refine pg_46_37 rfl ?_
      refine pg_46_38 rfl ?_
      refine pg_46_39 (sk1 hs) ?_
      refine pg_46_42 (sk7 hs (i := a) (by omega)) (Nat.le_of_ble_eq_true rfl) (ct_52 (a := a) (i := i1) (x := (s1 (1, 0, 0) 0)) hs (by omega) (by omega) (fz_kp hf (kp_tr (kp_tr (kp_tr (kp_tr (kp_re [711, 712, 800, 900, 1000, 1300] fi) rfl (kp_it (L := [900, 1000]) (p := fun (s : FI) => s) (N := n) (F := sp_46_2 n a) (s0 := fi) (kp_re [900, 1000] fi) (fun i s => kp_sp_46_2 n a i s))) rfl (kp_sp_48 n (lq_it n (sp_46_2 n a) fi) fl a)) rfl hk1) rfl (kp_re [800] s1)) rfl rfl rfl)) ?_
      refine pg_46_45 (y := (nI (i1 + 1))) (lv' := [some (xm_r (7, a, 0)), some (xm_r (1, 0, 0)), some (xm_i (nI (i1 + 1)))]) rfl (nI_1 i1) rfl ?_
      refine pg_46_48 ?_
      exact K1 (sp_52 s1 a i1 (s1 (1, 0, 0) 0)) (by unfold sp_46_28; all_goals rfl)
    · intro hd1x2
      show xm_G E (d + 3) true 46 28 [some (xm_r (7, a, 0)), some (xm_r (1, 0, 0)), some (xm_i (nI n))] [] (c, (lq_it n (sp_46_28 a) (sp_48 n (lq_it n (sp_46_2 n a) fi) fl a)), fl, r) R
      refine pg_46_28 rfl ?_
      refine pg_46_29 rfl ?_
      refine pg_46_30 (sk7 hs (i := a) (by omega)) ?_
      refine go_top (y := nI n) ((fz_kp hf (kp_tr (kp_tr (kp_tr (kp_re [711, 712, 800, 900, 1000, 1300] fi) rfl (kp_it (L := [900, 1000]) (p := fun (s : FI) => s) (N := n) (F := sp_46_2 n a) (s0 := fi) (kp_re [900, 1000] fi) (fun i s => kp_sp_46_2 n a i s))) rfl (kp_sp_48 n (lq_it n (sp_46_2 n a) fi) fl a)) rfl (kp_it (L := [800]) (p := fun (s : FI) => s) (N := n) (F := sp_46_28 a) (s0 := (sp_48 n (lq_it n (sp_46_2 n a) fi) fl a)) (kp_re [800] (sp_48 n (lq_it n (sp_46_2 n a) fi) fl a)) (fun i s => kp_sp_46_28 a i s))) rfl rfl rfl).1 a (by omega)).2 ?_
      refine pg_46_33 (fun _ => ?_) (fun hc => absurd (nx_le (a := n) (b := n) rfl rfl (by omega) (by omega)) hc)
      exact go_eq (hR.symm.trans (by unfold sp_46; all_goals rfl)) (pg_46_51)
-- 58: Node.bitsOf
def sp_58 (n : Nat) (i : Nat) : Int32 := if (nI i) = (2 : Int32) then ((sp_1 (nI n))) else (if (nI i) = (3 : Int32) then ((sp_1 ((4 : Int32) * (nI n)))) else ((-1 : Int32)))
set_option maxRecDepth 4000 in
theorem ct_58 {n : Nat} {E : xm_E} {c : Nat × Nat} {fi : FI} {fl : FL} {r : xm_I → Nat → Option xm_I} {d : Nat} {md : Bool} {a : Nat} {i : Nat} (hs : sh n E c r) (ha : a < n) (hf : fz n fi) : xm_C E (d + 2) md 58 [xm_r (7, a, 0), xm_i (nI i)] (c, fi, fl, r) (.inl (some (xm_i (sp_58 n i))), (c, fi, fl, r)) := by
  have hn := sh_n hs
  suffices key : ∀ R : xm_O, ((.inl (some (xm_i (sp_58 n i))), (c, fi, fl, r)) : xm_O) = R → xm_G E (d + 1) md 58 0 [some (xm_r (7, a, 0)), some (xm_i (nI i))] [] (c, fi, fl, r) R from go_inr (by decide) (Nat.le_of_ble_eq_true rfl) (key _ rfl)
  intro R hR
  refine pg_58_0 rfl ?_
  refine pg_58_1 ?_
  refine pg_58_2 (fun hc1 => ?_) (fun hc2 => ?_)
  · refine pg_58_13 rfl ?_
    refine pg_58_14 ?_
    refine pg_58_15 (fun hc3 => ?_) (fun hc4 => ?_)
    · refine pg_58_30 ?_
      exact go_eq (hR.symm.trans (by unfold sp_58; try rw [if_neg hc1]; try rw [if_neg hc3]; all_goals rfl)) (pg_58_31)
    · refine pg_58_18 ?_
      refine pg_58_19 rfl ?_
      refine pg_58_20 (sk7 hs (i := a) (by omega)) ?_
      refine go_top (y := nI n) ((fz_kp hf (kp_re [] fi) rfl rfl rfl).1 a (by omega)).2 ?_
      refine pg_58_23 ?_
      refine pg_58_24 (Nat.le_of_ble_eq_true rfl) (ct_1 (x := ((4 : Int32) * (nI n)))) ?_
      refine pg_58_27 ?_
      exact go_eq (hR.symm.trans (by unfold sp_58; try rw [if_neg hc1]; try rw [if_pos hc4]; all_goals rfl)) (pg_58_31)
  · refine pg_58_5 rfl ?_
    refine pg_58_6 (sk7 hs (i := a) (by omega)) ?_
    refine go_top (y := nI n) ((fz_kp hf (kp_re [] fi) rfl rfl rfl).1 a (by omega)).2 ?_
    refine pg_58_9 (Nat.le_of_ble_eq_true rfl) (ct_1 (x := (nI n))) ?_
    exact go_eq (hR.symm.trans (by unfold sp_58; try rw [if_pos hc2]; all_goals rfl)) (pg_58_12)
-- 56: Node.countOwnState
def sp_56_2 (a : Nat) (i1 : Nat) (s1 : FI) : FI := (sp_63 s1 a (2 + i1) a (s1 (8, a, 0) i1))
theorem kp_sp_56_2 (a : Nat) (i1 : Nat) (s1 : FI) : kp [900, 1000] s1 (sp_56_2 a i1 s1) := by
  unfold sp_56_2
  exact (kp_tr (kp_re [900, 1000] s1) rfl (kp_sp_63 s1 a (2 + i1) a (s1 (8, a, 0) i1)))
def sp_56 (fi : FI) (a : Nat) : FI := (lq_it 4 (sp_56_2 a) fi)
theorem kp_sp_56 (fi : FI) (a : Nat) : kp [900, 1000] fi (sp_56 fi a) := by
  unfold sp_56
  exact (kp_tr (kp_re [900, 1000] fi) rfl (kp_it (L := [900, 1000]) (p := fun (s : FI) => s) (N := 4) (F := sp_56_2 a) (s0 := fi) (kp_re [900, 1000] fi) (fun i s => kp_sp_56_2 a i s)))
set_option maxRecDepth 4000 in
theorem ct_56 {n : Nat} {E : xm_E} {c : Nat × Nat} {fi : FI} {fl : FL} {r : xm_I → Nat → Option xm_I} {d : Nat} {a : Nat} (hs : sh n E c r) (ha : a < n) (hf : fz n fi) : xm_C E (d + 2) true 56 [xm_r (7, a, 0)] (c, fi, fl, r) (.inl (none), (c, (sp_56 fi a), fl, r)) := by
  have hn := sh_n hs
  suffices key : ∀ R : xm_O, ((.inl (none), (c, (sp_56 fi a), fl, r)) : xm_O) = R → xm_G E (d + 1) true 56 0 [some (xm_r (7, a, 0)), none] [] (c, fi, fl, r) R from go_inr (by decide) (Nat.le_of_ble_eq_true rfl) (key _ rfl)
  intro R hR
  refine pg_56_0 ?_
  refine pg_56_1 (lv' := [some (xm_r (7, a, 0)), some (xm_i (0 : Int32))]) rfl ?_
  refine (lq_li (N := 4) (f := sp_56_2 a) (s0 := fi) (P := fun i1 s1 => xm_G E (d + 1) true 56 2 [some (xm_r (7, a, 0)), some (xm_i (nI i1))] [] (c, s1, fl, r) R) (I := fun i1 s1 => kp [900, 1000] fi s1) (kp_re [900, 1000] _) (fun i1 s1 hi1 hk1 => kp_tr hk1 rfl (kp_sp_56_2 a i1 s1)) ?_ ?_)
  · intro i1 s1 hi1 hk1 K1
    show xm_G E (d + 1) true 56 2 [some (xm_r (7, a, 0)), some (xm_i (nI i1))] [] (c, s1, fl, r) R
    refine pg_56_2 rfl ?_
    refine pg_56_3 ?_
    refine pg_56_4 (fun hc => absurd hc (nx_nle (a := i1) (b := 4) rfl (rfl : (4 : Int32) = nI 4) (by omega) (by omega))) (fun _ => ?_)
    refine pg_56_7 rfl ?_
    refine pg_56_8 (sk7 hs (i := a) (by omega)) (sr7_7 hs (i := a) (by omega)) ?_
    refine pg_56_11 rfl ?_
    refine pg_56_12 (sk12 hs (i := a) (by omega)) (by decide) (i := i1) rfl (by omega) (by omega) (sr12 hs (i := a) (k := i1) (by omega) (by omega)) ?_
    refine pg_56_13 rfl ?_
    refine pg_56_14 (sk7 hs (i := a) (by omega)) ?_
    refine go_top (y := nI a) ((fz_kp hf (kp_tr (kp_tr (kp_re [900, 1000] fi) rfl hk1) rfl (kp_re [900, 1000] s1)) rfl rfl rfl).1 a (by omega)).1 ?_
    refine pg_56_17 rfl ?_
    refine pg_56_18 (sk7 hs (i := a) (by omega)) (sr7_4 hs (i := a) (by omega)) ?_
    refine pg_56_21 rfl ?_
    refine pg_56_22 (Or.inl (sk8 hs (i := a) (by omega))) (i := i1) rfl (by omega) (by omega) ?_
    refine pg_56_23 (sk9 hs (i := a) (k := 2 + i1) (by show _ ∨ _; omega)) (Nat.le_of_ble_eq_true rfl) (ct_63 (i := a) (k := 2 + i1) (p := a) (x := (s1 (8, a, 0) i1)) hs (by show _ ∨ _; omega) (by omega)) ?_
    refine pg_56_26 (y := (nI (i1 + 1))) (lv' := [some (xm_r (7, a, 0)), some (xm_i (nI (i1 + 1)))]) rfl (nI_1 i1) rfl ?_
    refine pg_56_29 ?_
    exact K1 (sp_63 s1 a (2 + i1) a (s1 (8, a, 0) i1)) (by unfold sp_56_2; all_goals rfl)
  · intro hd1x1
    show xm_G E (d + 1) true 56 2 [some (xm_r (7, a, 0)), some (xm_i (nI 4))] [] (c, (lq_it 4 (sp_56_2 a) fi), fl, r) R
    refine pg_56_2 rfl ?_
    refine pg_56_3 ?_
    refine pg_56_4 (fun _ => ?_) (fun hc => absurd (nx_le (a := 4) (b := 4) rfl (rfl : (4 : Int32) = nI 4) (by omega) (by omega)) hc)
    exact go_eq (hR.symm.trans (by unfold sp_56; all_goals rfl)) (pg_56_32)
-- 57: Node.adoptMajorities
def sp_57_2 (n : Nat) (a : Nat) (i1 : Nat) (s1 : FI) : FI := if (sp_66 n s1 a (2 + i1) (sp_1 (nI n))) = (-1 : Int32) then (s1) else ((xm_up s1 (8, a, 0) i1 ((sp_65 s1 a (2 + i1) ((sp_66 n s1 a (2 + i1) (sp_1 (nI n))).toNatClampNeg)) &&& (sp_58 n i1))))
theorem kp_sp_57_2 (n : Nat) (a : Nat) (i1 : Nat) (s1 : FI) : kp [800] s1 (sp_57_2 n a i1 s1) := by
  unfold sp_57_2
  rcases Classical.em ((sp_66 n s1 a (2 + i1) (sp_1 (nI n))) = (-1 : Int32)) with hc | hc
  · (try rw [if_pos hc])
    exact (kp_re [800] s1)
  · (try rw [if_neg hc])
    exact (kp_up (kp_re [800] s1) rfl)
def sp_57 (n : Nat) (fi : FI) (a : Nat) : FI := (lq_it 4 (sp_57_2 n a) fi)
theorem kp_sp_57 (n : Nat) (fi : FI) (a : Nat) : kp [800] fi (sp_57 n fi a) := by
  unfold sp_57
  exact (kp_tr (kp_re [800] fi) rfl (kp_it (L := [800]) (p := fun (s : FI) => s) (N := 4) (F := sp_57_2 n a) (s0 := fi) (kp_re [800] fi) (fun i s => kp_sp_57_2 n a i s)))
set_option maxRecDepth 4000 in
theorem ct_57 {n : Nat} {E : xm_E} {c : Nat × Nat} {fi : FI} {fl : FL} {r : xm_I → Nat → Option xm_I} {d : Nat} {a : Nat} (hs : sh n E c r) (ha : a < n) (hf : fz n fi) : xm_C E (d + 3) true 57 [xm_r (7, a, 0)] (c, fi, fl, r) (.inl (none), (c, (sp_57 n fi a), fl, r)) := by
  have hn := sh_n hs
  suffices key : ∀ R : xm_O, ((.inl (none), (c, (sp_57 n fi a), fl, r)) : xm_O) = R → xm_G E (d + 2) true 57 0 [some (xm_r (7, a, 0)), none, none] [] (c, fi, fl, r) R from go_inr (by decide) (Nat.le_of_ble_eq_true rfl) (key _ rfl)
  intro R hR
  refine pg_57_0 ?_
  refine pg_57_1 (lv' := [some (xm_r (7, a, 0)), some (xm_i (0 : Int32)), none]) rfl ?_
  refine (lq_li (N := 4) (f := sp_57_2 n a) (s0 := fi) (P := fun i1 s1 => ∀ u2 : Option xm_V, xm_G E (d + 2) true 57 2 [some (xm_r (7, a, 0)), some (xm_i (nI i1)), u2] [] (c, s1, fl, r) R) (I := fun i1 s1 => kp [800] fi s1) (kp_re [800] _) (fun i1 s1 hi1 hk1 => kp_tr hk1 rfl (kp_sp_57_2 n a i1 s1)) ?_ ?_) _
  · intro i1 s1 hi1 hk1 K1 u2
    show xm_G E (d + 2) true 57 2 [some (xm_r (7, a, 0)), some (xm_i (nI i1)), u2] [] (c, s1, fl, r) R
    refine pg_57_2 rfl ?_
    refine pg_57_3 ?_
    refine pg_57_4 (fun hc => absurd hc (nx_nle (a := i1) (b := 4) rfl (rfl : (4 : Int32) = nI 4) (by omega) (by omega))) (fun _ => ?_)
    refine pg_57_7 rfl ?_
    refine pg_57_8 (sk7 hs (i := a) (by omega)) (sr7_7 hs (i := a) (by omega)) ?_
    refine pg_57_11 rfl ?_
    refine pg_57_12 (sk12 hs (i := a) (by omega)) (by decide) (i := i1) rfl (by omega) (by omega) (sr12 hs (i := a) (k := i1) (by omega) (by omega)) ?_
    refine pg_57_13 rfl ?_
    refine pg_57_14 (sk7 hs (i := a) (by omega)) ?_
    refine go_top (y := nI n) ((fz_kp hf (kp_tr (kp_tr (kp_re [800] fi) rfl hk1) rfl (kp_re [800] s1)) rfl rfl rfl).1 a (by omega)).2 ?_
    refine pg_57_17 (Nat.le_of_ble_eq_true rfl) (ct_1 (x := (nI n))) ?_
    refine pg_57_20 (sk9 hs (i := a) (k := 2 + i1) (by show _ ∨ _; omega)) (Nat.le_of_ble_eq_true rfl) (ct_66 (i := a) (k := 2 + i1) (v := (sp_1 (nI n))) hs (by show _ ∨ _; omega)) ?_
    refine pg_57_23 (lv' := [some (xm_r (7, a, 0)), some (xm_i (nI i1)), some (xm_i (sp_66 n s1 a (2 + i1) (sp_1 (nI n))))]) rfl ?_
    refine pg_57_24 rfl ?_
    refine pg_57_25 ?_
    refine pg_57_26 (fun hc1 => ?_) (fun hc2 => ?_)
    · refine pg_57_51 (y := (nI (i1 + 1))) (lv' := [some (xm_r (7, a, 0)), some (xm_i (nI (i1 + 1))), some (xm_i (sp_66 n s1 a (2 + i1) (sp_1 (nI n))))]) rfl (nI_1 i1) rfl ?_
      refine pg_57_54 ?_
      exact K1 s1 (by unfold sp_57_2; try rw [if_pos hc1]; all_goals rfl) _
    · refine pg_57_29 rfl ?_
      refine pg_57_30 (sk7 hs (i := a) (by omega)) (sr7_4 hs (i := a) (by omega)) ?_
      refine pg_57_33 rfl ?_
      refine pg_57_34 rfl ?_
      refine pg_57_35 (sk7 hs (i := a) (by omega)) (sr7_7 hs (i := a) (by omega)) ?_
      refine pg_57_38 rfl ?_
      refine pg_57_39 (sk12 hs (i := a) (by omega)) (by decide) (i := i1) rfl (by omega) (by omega) (sr12 hs (i := a) (k := i1) (by omega) (by omega)) ?_
      refine pg_57_40 rfl ?_
      have hpm := pm_66 hc2 (by omega)
      refine go_top (y := nI (sp_66 n s1 a (2 + i1) (sp_1 (nI n))).toNatClampNeg) hpm.1 ?_
      refine pg_57_41 (sk9 hs (i := a) (k := 2 + i1) (by show _ ∨ _; omega)) (Nat.le_of_ble_eq_true rfl) (ct_65 (i := a) (k := 2 + i1) (p := (sp_66 n s1 a (2 + i1) (sp_1 (nI n))).toNatClampNeg) hs (by show _ ∨ _; omega) (by omega)) ?_
      refine pg_57_44 rfl ?_
      refine pg_57_45 rfl ?_
      refine pg_57_46 (sk7 hs (i := a) (by omega)) (Nat.le_of_ble_eq_true rfl) (ct_58 (a := a) (i := i1) hs (by omega) (fz_kp hf (kp_tr (kp_tr (kp_re [800] fi) rfl hk1) rfl (kp_re [800] s1)) rfl rfl rfl)) ?_
      refine pg_57_49 ?_
      refine pg_57_50 (sk8 hs (i := a) (by omega)) (i := i1) rfl (by omega) (by omega) ?_
      refine pg_57_51 (y := (nI (i1 + 1))) (lv' := [some (xm_r (7, a, 0)), some (xm_i (nI (i1 + 1))), some (xm_i (sp_66 n s1 a (2 + i1) (sp_1 (nI n))))]) rfl (nI_1 i1) rfl ?_
      refine pg_57_54 ?_
      exact K1 (xm_up s1 (8, a, 0) i1 ((sp_65 s1 a (2 + i1) ((sp_66 n s1 a (2 + i1) (sp_1 (nI n))).toNatClampNeg)) &&& (sp_58 n i1))) (by unfold sp_57_2; try rw [if_neg hc2]; all_goals rfl) _
  · intro hd1x3 u2
    show xm_G E (d + 2) true 57 2 [some (xm_r (7, a, 0)), some (xm_i (nI 4)), u2] [] (c, (lq_it 4 (sp_57_2 n a) fi), fl, r) R
    refine pg_57_2 rfl ?_
    refine pg_57_3 ?_
    refine pg_57_4 (fun _ => ?_) (fun hc => absurd (nx_le (a := 4) (b := 4) rfl (rfl : (4 : Int32) = nI 4) (by omega) (by omega)) hc)
    exact go_eq (hR.symm.trans (by unfold sp_57; all_goals rfl)) (pg_57_57)
-- 59: Node.hasAllMajorities
def sp_59_2 (n : Nat) (fi : FI) (a : Nat) : Nat → Nat → Bool
  | 0, _ => true
  | m + 1, i1 => if (sp_66 n fi a (2 + i1) (sp_1 (nI n))) = (-1 : Int32) then (false) else (sp_59_2 n fi a m (i1 + 1))
def sp_59 (n : Nat) (fi : FI) (a : Nat) : Bool := sp_59_2 n fi a 4 0
set_option maxRecDepth 4000 in
theorem ct_59 {n : Nat} {E : xm_E} {c : Nat × Nat} {fi : FI} {fl : FL} {r : xm_I → Nat → Option xm_I} {d : Nat} {md : Bool} {a : Nat} (hs : sh n E c r) (ha : a < n) (hf : fz n fi) : xm_C E (d + 3) md 59 [xm_r (7, a, 0)] (c, fi, fl, r) (.inl (some (xm_i (bI (sp_59 n fi a)))), (c, fi, fl, r)) := by
  have hn := sh_n hs
  suffices key : ∀ R : xm_O, ((.inl (some (xm_i (bI (sp_59 n fi a)))), (c, fi, fl, r)) : xm_O) = R → xm_G E (d + 2) md 59 0 [some (xm_r (7, a, 0)), none] [] (c, fi, fl, r) R from go_inr (by decide) (Nat.le_of_ble_eq_true rfl) (key _ rfl)
  intro R hR
  refine pg_59_0 ?_
  refine pg_59_1 (lv' := [some (xm_r (7, a, 0)), some (xm_i (0 : Int32))]) rfl ?_
  refine go_eq (R := (.inl (some (xm_i (bI (sp_59_2 n fi a (4 - 0) 0)))), (c, fi, fl, r))) (hR.symm.trans (by unfold sp_59; all_goals rfl)) ?_
  refine lq_early (N := 4) (P := fun i1 => xm_G E (d + 2) md 59 2 [some (xm_r (7, a, 0)), some (xm_i (nI i1))] [] (c, fi, fl, r) (.inl (some (xm_i (bI (sp_59_2 n fi a (4 - i1) i1)))), (c, fi, fl, r))) ?_ ?_
  · intro i1 hi1 K1
    show xm_G E (d + 2) md 59 2 [some (xm_r (7, a, 0)), some (xm_i (nI i1))] [] (c, fi, fl, r) (.inl (some (xm_i (bI (sp_59_2 n fi a (4 - i1) i1)))), (c, fi, fl, r))
    rw [show (4 - i1) = (4 - (i1 + 1)) + 1 from by omega]
    refine pg_59_2 rfl ?_
    refine pg_59_3 ?_
    refine pg_59_4 (fun hc => absurd hc (nx_nle (a := i1) (b := 4) rfl (rfl : (4 : Int32) = nI 4) (by omega) (by omega))) (fun _ => ?_)
    refine pg_59_7 rfl ?_
    refine pg_59_8 (sk7 hs (i := a) (by omega)) (sr7_7 hs (i := a) (by omega)) ?_
    refine pg_59_11 rfl ?_
    refine pg_59_12 (sk12 hs (i := a) (by omega)) (by decide) (i := i1) rfl (by omega) (by omega) (sr12 hs (i := a) (k := i1) (by omega) (by omega)) ?_
    refine pg_59_13 rfl ?_
    refine pg_59_14 (sk7 hs (i := a) (by omega)) ?_
    refine go_top (y := nI n) ((fz_kp hf (kp_re [] fi) rfl rfl rfl).1 a (by omega)).2 ?_
    refine pg_59_17 (Nat.le_of_ble_eq_true rfl) (ct_1 (x := (nI n))) ?_
    refine pg_59_20 (sk9 hs (i := a) (k := 2 + i1) (by show _ ∨ _; omega)) (Nat.le_of_ble_eq_true rfl) (ct_66 (i := a) (k := 2 + i1) (v := (sp_1 (nI n))) hs (by show _ ∨ _; omega)) ?_
    refine pg_59_23 ?_
    refine pg_59_24 (fun hc1 => ?_) (fun hc2 => ?_)
    · refine pg_59_29 (y := (nI (i1 + 1))) (lv' := [some (xm_r (7, a, 0)), some (xm_i (nI (i1 + 1)))]) rfl (nI_1 i1) rfl ?_
      refine pg_59_32 ?_
      exact go_eq (by rw [sp_59_2]; try rw [if_neg hc1]; all_goals rfl) K1
    · refine pg_59_27 ?_
      exact go_eq (by rw [sp_59_2]; try rw [if_pos hc2]; all_goals rfl) (pg_59_28 (Or.inl rfl))
  · show xm_G E (d + 2) md 59 2 [some (xm_r (7, a, 0)), some (xm_i (nI 4))] [] (c, fi, fl, r) (.inl (some (xm_i (bI (sp_59_2 n fi a (4 - 4) 4)))), (c, fi, fl, r))
    rw [Nat.sub_self]
    refine pg_59_2 rfl ?_
    refine pg_59_3 ?_
    refine pg_59_4 (fun _ => ?_) (fun hc => absurd (nx_le (a := 4) (b := 4) rfl (rfl : (4 : Int32) = nI 4) (by omega) (by omega)) hc)
    refine pg_59_35 ?_
    exact go_eq (by rw [sp_59_2]; all_goals rfl) (pg_59_36 (Or.inr rfl))
-- 55: Node.adoptStates
def sp_55 (n : Nat) (fi : FI) (a : Nat) : FI := if (fi (7, a, 0) 3) = 0 then ((sp_57 n (sp_56 fi a) a)) else (if (bI (sp_59 n fi a)) = 0 then (fi) else ((xm_up (sp_57 n fi a) (7, a, 0) 3 (0 : Int32))))
theorem kp_sp_55 (n : Nat) (fi : FI) (a : Nat) : kp [703, 800, 900, 1000] fi (sp_55 n fi a) := by
  unfold sp_55
  rcases Classical.em ((fi (7, a, 0) 3) = 0) with hc | hc
  · (try rw [if_pos hc])
    exact (kp_tr (kp_tr (kp_re [703, 800, 900, 1000] fi) rfl (kp_sp_56 fi a)) rfl (kp_sp_57 n (sp_56 fi a) a))
  · (try rw [if_neg hc])
    rcases Classical.em ((bI (sp_59 n fi a)) = 0) with hc | hc
    · (try rw [if_pos hc])
      exact (kp_re [703, 800, 900, 1000] fi)
    · (try rw [if_neg hc])
      exact (kp_up (kp_tr (kp_re [703, 800, 900, 1000] fi) rfl (kp_sp_57 n fi a)) rfl)
set_option maxRecDepth 4000 in
theorem ct_55 {n : Nat} {E : xm_E} {c : Nat × Nat} {fi : FI} {fl : FL} {r : xm_I → Nat → Option xm_I} {d : Nat} {a : Nat} (hs : sh n E c r) (ha : a < n) (hf : fz n fi) : xm_C E (d + 4) true 55 [xm_r (7, a, 0)] (c, fi, fl, r) (.inl (none), (c, (sp_55 n fi a), fl, r)) := by
  have hn := sh_n hs
  suffices key : ∀ R : xm_O, ((.inl (none), (c, (sp_55 n fi a), fl, r)) : xm_O) = R → xm_G E (d + 3) true 55 0 [some (xm_r (7, a, 0))] [] (c, fi, fl, r) R from go_inr (by decide) (Nat.le_of_ble_eq_true rfl) (key _ rfl)
  intro R hR
  refine pg_55_0 rfl ?_
  refine pg_55_1 (sk7 hs (i := a) (by omega)) ?_
  refine pg_55_4 (fun hc1 => ?_) (fun hc2 => ?_)
  · refine pg_55_18 rfl ?_
    refine pg_55_19 (sk7 hs (i := a) (by omega)) (Nat.le_of_ble_eq_true rfl) (ct_59 (a := a) hs (by omega) (fz_kp hf (kp_re [703, 800, 900, 1000] fi) rfl rfl rfl)) ?_
    refine pg_55_22 (fun hc3 => ?_) (fun hc4 => ?_)
    · exact go_eq (hR.symm.trans (by unfold sp_55; try rw [if_neg hc1]; try rw [if_pos hc3]; all_goals rfl)) (pg_55_34)
    · refine pg_55_25 rfl ?_
      refine pg_55_26 (sk7 hs (i := a) (by omega)) (Nat.le_of_ble_eq_true rfl) (ct_57 (a := a) hs (by omega) (fz_kp hf (kp_re [703, 800, 900, 1000] fi) rfl rfl rfl)) ?_
      refine pg_55_29 rfl ?_
      refine pg_55_30 ?_
      refine pg_55_31 (sk7 hs (i := a) (by omega)) (Or.inl rfl) ?_
      exact go_eq (hR.symm.trans (by unfold sp_55; try rw [if_neg hc1]; try rw [if_neg hc4]; all_goals rfl)) (pg_55_34)
  · refine pg_55_7 rfl ?_
    refine pg_55_8 (sk7 hs (i := a) (by omega)) (Nat.le_of_ble_eq_true rfl) (ct_56 (a := a) hs (by omega) (fz_kp hf (kp_re [703, 800, 900, 1000] fi) rfl rfl rfl)) ?_
    refine pg_55_11 rfl ?_
    refine pg_55_12 (sk7 hs (i := a) (by omega)) (Nat.le_of_ble_eq_true rfl) (ct_57 (a := a) hs (by omega) (fz_kp hf (kp_tr (kp_re [703, 800, 900, 1000] fi) rfl (kp_sp_56 fi a)) rfl rfl rfl)) ?_
    refine pg_55_15 ?_
    exact go_eq (hR.symm.trans (by unfold sp_55; try rw [if_pos hc2]; all_goals rfl)) (pg_55_34)
-- 60: Node.isLike
def sp_60_36 (fi : FI) (a : Nat) (b : Nat) : Nat → Nat → Bool
  | 0, _ => true
  | m + 1, i1 => if (fi (8, a, 0) i1) = (fi (8, b, 0) i1) then (sp_60_36 fi a b m (i1 + 1)) else (false)
def sp_60 (fi : FI) (a : Nat) (b : Nat) : Bool := if (fi (7, a, 0) 3) = 0 then (if (fi (7, b, 0) 3) = 0 then (sp_60_36 fi a b 4 0) else (if (fi (7, a, 0) 3) = 0 then (false) else (if (fi (7, b, 0) 3) = 0 then (false) else (true)))) else (if (fi (7, a, 0) 3) = 0 then (false) else (if (fi (7, b, 0) 3) = 0 then (false) else (true)))
set_option maxRecDepth 4000 in
theorem ct_60 {n : Nat} {E : xm_E} {c : Nat × Nat} {fi : FI} {fl : FL} {r : xm_I → Nat → Option xm_I} {d : Nat} {md : Bool} {a : Nat} {b : Nat} (hs : sh n E c r) (ha : a < n) (hb2 : b < n) : xm_C E (d + 1) md 60 [xm_r (7, a, 0), xm_r (7, b, 0)] (c, fi, fl, r) (.inl (some (xm_i (bI (sp_60 fi a b)))), (c, fi, fl, r)) := by
  have hn := sh_n hs
  suffices key : ∀ R : xm_O, ((.inl (some (xm_i (bI (sp_60 fi a b)))), (c, fi, fl, r)) : xm_O) = R → xm_G E (d + 0) md 60 0 [some (xm_r (7, a, 0)), some (xm_r (7, b, 0)), none] [] (c, fi, fl, r) R from go_inr (by decide) (Nat.le_of_ble_eq_true rfl) (key _ rfl)
  intro R hR
  refine pg_60_0 rfl ?_
  refine pg_60_1 (sk7 hs (i := a) (by omega)) ?_
  refine pg_60_4 (fun hc1 => ?_) (fun hc2 => ?_)
  · refine pg_60_14 rfl ?_
    refine pg_60_15 (sk7 hs (i := a) (by omega)) ?_
    refine pg_60_18 (fun hc3 => ?_) (fun hc4 => ?_)
    · refine pg_60_32 ?_
      exact go_eq (hR.symm.trans (by unfold sp_60; try rw [if_neg hc1]; try rw [if_pos hc3]; all_goals rfl)) (pg_60_33 (Or.inl rfl))
    · refine pg_60_21 rfl ?_
      refine pg_60_22 (sk7 hs (i := b) (by omega)) ?_
      refine pg_60_25 (fun hc5 => ?_) (fun hc6 => ?_)
      · refine pg_60_32 ?_
        exact go_eq (hR.symm.trans (by unfold sp_60; try rw [if_neg hc1]; try rw [if_neg hc4]; try rw [if_pos hc5]; all_goals rfl)) (pg_60_33 (Or.inl rfl))
      · refine pg_60_28 ?_
        refine pg_60_29 ?_
        exact go_eq (hR.symm.trans (by unfold sp_60; try rw [if_neg hc1]; try rw [if_neg hc4]; try rw [if_neg hc6]; all_goals rfl)) (pg_60_33 (Or.inr rfl))
  · refine pg_60_7 rfl ?_
    refine pg_60_8 (sk7 hs (i := b) (by omega)) ?_
    refine pg_60_11 (fun hc7 => ?_) (fun hc8 => ?_)
    · refine pg_60_34 ?_
      refine pg_60_35 (lv' := [some (xm_r (7, a, 0)), some (xm_r (7, b, 0)), some (xm_i (0 : Int32))]) rfl ?_
      refine go_eq (R := (.inl (some (xm_i (bI (sp_60_36 fi a b (4 - 0) 0)))), (c, fi, fl, r))) (hR.symm.trans (by unfold sp_60; try rw [if_pos hc2]; try rw [if_pos hc7]; all_goals rfl)) ?_
      refine lq_early (N := 4) (P := fun i1 => xm_G E (d + 0) md 60 36 [some (xm_r (7, a, 0)), some (xm_r (7, b, 0)), some (xm_i (nI i1))] [] (c, fi, fl, r) (.inl (some (xm_i (bI (sp_60_36 fi a b (4 - i1) i1)))), (c, fi, fl, r))) ?_ ?_
      · intro i1 hi1 K1
        show xm_G E (d + 0) md 60 36 [some (xm_r (7, a, 0)), some (xm_r (7, b, 0)), some (xm_i (nI i1))] [] (c, fi, fl, r) (.inl (some (xm_i (bI (sp_60_36 fi a b (4 - i1) i1)))), (c, fi, fl, r))
        rw [show (4 - i1) = (4 - (i1 + 1)) + 1 from by omega]
        refine pg_60_36 rfl ?_
        refine pg_60_37 ?_
        refine pg_60_38 (fun hc => absurd hc (nx_nle (a := i1) (b := 4) rfl (rfl : (4 : Int32) = nI 4) (by omega) (by omega))) (fun _ => ?_)
        refine pg_60_41 rfl ?_
        refine pg_60_42 (sk7 hs (i := a) (by omega)) (sr7_4 hs (i := a) (by omega)) ?_
        refine pg_60_45 rfl ?_
        refine pg_60_46 (Or.inl (sk8 hs (i := a) (by omega))) (i := i1) rfl (by omega) (by omega) ?_
        refine pg_60_47 rfl ?_
        refine pg_60_48 (sk7 hs (i := b) (by omega)) (sr7_4 hs (i := b) (by omega)) ?_
        refine pg_60_51 rfl ?_
        refine pg_60_52 (Or.inl (sk8 hs (i := b) (by omega))) (i := i1) rfl (by omega) (by omega) ?_
        refine pg_60_53 (fun hc9 => ?_) (fun hc10 => ?_)
        · refine pg_60_58 (y := (nI (i1 + 1))) (lv' := [some (xm_r (7, a, 0)), some (xm_r (7, b, 0)), some (xm_i (nI (i1 + 1)))]) rfl (nI_1 i1) rfl ?_
          refine pg_60_61 ?_
          exact go_eq (by rw [sp_60_36]; try rw [if_pos hc9]; all_goals rfl) K1
        · refine pg_60_56 ?_
          exact go_eq (by rw [sp_60_36]; try rw [if_neg hc10]; all_goals rfl) (pg_60_57 (Or.inl rfl))
      · show xm_G E (d + 0) md 60 36 [some (xm_r (7, a, 0)), some (xm_r (7, b, 0)), some (xm_i (nI 4))] [] (c, fi, fl, r) (.inl (some (xm_i (bI (sp_60_36 fi a b (4 - 4) 4)))), (c, fi, fl, r))
        rw [Nat.sub_self]
        refine pg_60_36 rfl ?_
        refine pg_60_37 ?_
        refine pg_60_38 (fun _ => ?_) (fun hc => absurd (nx_le (a := 4) (b := 4) rfl (rfl : (4 : Int32) = nI 4) (by omega) (by omega)) hc)
        refine pg_60_64 ?_
        exact go_eq (by rw [sp_60_36]; all_goals rfl) (pg_60_65 (Or.inr rfl))
    · refine pg_60_14 rfl ?_
      refine pg_60_15 (sk7 hs (i := a) (by omega)) ?_
      refine pg_60_18 (fun hc11 => ?_) (fun hc12 => ?_)
      · refine pg_60_32 ?_
        exact go_eq (hR.symm.trans (by unfold sp_60; try rw [if_pos hc2]; try rw [if_neg hc8]; try rw [if_pos hc11]; all_goals rfl)) (pg_60_33 (Or.inl rfl))
      · refine pg_60_21 rfl ?_
        refine pg_60_22 (sk7 hs (i := b) (by omega)) ?_
        refine pg_60_25 (fun hc13 => ?_) (fun hc14 => ?_)
        · refine pg_60_32 ?_
          exact go_eq (hR.symm.trans (by unfold sp_60; try rw [if_pos hc2]; try rw [if_neg hc8]; try rw [if_neg hc12]; try rw [if_pos hc13]; all_goals rfl)) (pg_60_33 (Or.inl rfl))
        · refine pg_60_28 ?_
          refine pg_60_29 ?_
          exact go_eq (hR.symm.trans (by unfold sp_60; try rw [if_pos hc2]; try rw [if_neg hc8]; try rw [if_neg hc12]; try rw [if_neg hc14]; all_goals rfl)) (pg_60_33 (Or.inr rfl))
