/-! Functions and contracts: the reference, states and a run. Written by wip/whole/prog. -/
theorem bz_if {f : Nat} {a b : FI} {p : Prop} [Decidable p] (ha : bz f a) (hb : bz f b) : bz f (if p then a else b) := by
  split
  · exact ha
  · exact hb
theorem bz_97 (n : Nat) (fi : FI) (p o : Nat) (v : Int32) (h : bz 14 fi) : bz 14 (sp_97 n fi p o v) := by
  unfold sp_97
  exact bz_it (p := fun (s : FI) => s) (bz_ne (bz_ne h (by decide)) (by decide)) (fun i s h => bz_97_44 p o v i s h)
-- 95: Model.restore
def sp_95_4 (n : Nat) (p : Nat) (i1 : Nat) (s1 : Bool × FI) : Bool × FI := (if (bI ((sp_96 n s1.2 p i1).1)) = 0 then false else (if (bI s1.1) = 0 then false else true), ((sp_96 n s1.2 p i1).2))
theorem kp_sp_95_4 (n : Nat) (p : Nat) (i1 : Nat) (s1 : Bool × FI) : kp [2036, 2039, 2137, 2138] s1.2 ((sp_95_4 n p i1 s1).2) := by
  unfold sp_95_4
  exact (kp_tr (kp_re [2036, 2039, 2137, 2138] s1.2) rfl (kp_sp_96 n s1.2 p i1))
def sp_95_36 (n : Nat) (fi : FI) (p : Nat) (i1 : Nat) (s1 : FI) : FI := if (bI ((sp_96 n s1 p i1).1)) = 0 then (((sp_96 n s1 p i1).2)) else (if (((sp_96 n s1 p i1).2) (21, 11, 0) p) = 0 then ((sp_97 n ((sp_96 n s1 p i1).2) p i1 (((sp_96 n s1 p i1).2) (20, 0, 0) 39))) else (if (bI ((lq_it 4 (sp_95_4 n p) (true, fi)).1)) = 0 then (((sp_96 n s1 p i1).2)) else ((sp_97 n ((sp_96 n s1 p i1).2) p i1 (((sp_96 n s1 p i1).2) (20, 0, 0) 39)))))
theorem kp_sp_95_36 (n : Nat) (fi : FI) (p : Nat) (i1 : Nat) (s1 : FI) : kp [2036, 2039, 2112, 2113, 2114, 2115, 2137, 2138] s1 (sp_95_36 n fi p i1 s1) := by
  unfold sp_95_36
  rcases Classical.em ((bI ((sp_96 n s1 p i1).1)) = 0) with hc | hc
  · (try rw [if_pos hc])
    exact (kp_tr (kp_re [2036, 2039, 2112, 2113, 2114, 2115, 2137, 2138] s1) rfl (kp_sp_96 n s1 p i1))
  · (try rw [if_neg hc])
    rcases Classical.em ((((sp_96 n s1 p i1).2) (21, 11, 0) p) = 0) with hc | hc
    · (try rw [if_pos hc])
      exact (kp_tr (kp_tr (kp_re [2036, 2039, 2112, 2113, 2114, 2115, 2137, 2138] s1) rfl (kp_sp_96 n s1 p i1)) rfl (kp_sp_97 n ((sp_96 n s1 p i1).2) p i1 (((sp_96 n s1 p i1).2) (20, 0, 0) 39)))
    · (try rw [if_neg hc])
      rcases Classical.em ((bI ((lq_it 4 (sp_95_4 n p) (true, fi)).1)) = 0) with hc | hc
      · (try rw [if_pos hc])
        exact (kp_tr (kp_re [2036, 2039, 2112, 2113, 2114, 2115, 2137, 2138] s1) rfl (kp_sp_96 n s1 p i1))
      · (try rw [if_neg hc])
        exact (kp_tr (kp_tr (kp_re [2036, 2039, 2112, 2113, 2114, 2115, 2137, 2138] s1) rfl (kp_sp_96 n s1 p i1)) rfl (kp_sp_97 n ((sp_96 n s1 p i1).2) p i1 (((sp_96 n s1 p i1).2) (20, 0, 0) 39)))
def sp_95 (n : Nat) (fi : FI) (p : Nat) : FI := (xm_up (lq_it 4 (sp_95_36 n fi p) ((lq_it 4 (sp_95_4 n p) (true, fi)).2)) (21, 11, 0) p (bI (if ((lq_it 4 (sp_95_36 n fi p) ((lq_it 4 (sp_95_4 n p) (true, fi)).2)) (21, 11, 0) p) = 0 then false else (if (bI ((lq_it 4 (sp_95_4 n p) (true, fi)).1)) = 0 then true else false))))
theorem kp_sp_95 (n : Nat) (fi : FI) (p : Nat) : kp [2036, 2039, 2111, 2112, 2113, 2114, 2115, 2137, 2138] fi (sp_95 n fi p) := by
  unfold sp_95
  exact (kp_up (kp_tr (kp_tr (kp_re [2036, 2039, 2111, 2112, 2113, 2114, 2115, 2137, 2138] fi) rfl (kp_it (L := [2036, 2039, 2137, 2138]) (p := fun (s : Bool × FI) => s.2) (N := 4) (F := sp_95_4 n p) (s0 := (true, fi)) (kp_re [2036, 2039, 2137, 2138] fi) (fun i s => kp_sp_95_4 n p i s))) rfl (kp_it (L := [2036, 2039, 2112, 2113, 2114, 2115, 2137, 2138]) (p := fun (s : FI) => s) (N := 4) (F := sp_95_36 n fi p) (s0 := ((lq_it 4 (sp_95_4 n p) (true, fi)).2)) (kp_re [2036, 2039, 2112, 2113, 2114, 2115, 2137, 2138] ((lq_it 4 (sp_95_4 n p) (true, fi)).2)) (fun i s => kp_sp_95_36 n fi p i s))) rfl)
theorem bz_95_36 (n : Nat) (fi : FI) (p i1 : Nat) (s1 : FI) (h : bz 14 s1) : bz 14 (sp_95_36 n fi p i1 s1) := by
  have h2 : bz 14 (sp_96 n s1 p i1).2 := bz_kp h (kp_sp_96 n s1 p i1) rfl
  unfold sp_95_36
  (repeat' split) <;> first | exact h2 | exact bz_97 _ _ _ _ _ h2
theorem bz_95 (n : Nat) (fi : FI) (p : Nat) (h : bz 14 fi) : bz 14 (sp_95 n fi p) := by
  unfold sp_95
  exact bz_ne (bz_it (p := fun (s : FI) => s) (bz_it (p := fun (s : Bool × FI) => s.2) h (fun i s h => bz_kp h (kp_sp_95_4 n p i s) rfl)) (fun i s h => bz_95_36 n fi p i s h)) (by decide)
set_option maxRecDepth 4000 in
theorem ct_95 {n : Nat} {E : xm_E} {c : Nat × Nat} {fi : FI} {fl : FL} {r : xm_I → Nat → Option xm_I} {d : Nat} {p : Nat} (hs : sh n E c r) (hp : p < n) (hf : fz n fi) (hb34 : bz 34 fi) (hb14 : bz 14 fi) : xm_C E (d + 3) true 95 [xm_r (20, 0, 0), xm_i (nI p)] (c, fi, fl, r) (.inl (none), (c, (sp_95 n fi p), fl, r)) := by
  have hn := sh_n hs
  suffices key : ∀ R : xm_O, ((.inl (none), (c, (sp_95 n fi p), fl, r)) : xm_O) = R → xm_G E (d + 2) true 95 0 [some (xm_r (20, 0, 0)), some (xm_i (nI p)), none, none] [] (c, fi, fl, r) R from go_inr (by decide) (Nat.le_of_ble_eq_true rfl) (key _ rfl)
  intro R hR
  refine pg_95_0 ?_
  refine pg_95_1 (lv' := [some (xm_r (20, 0, 0)), some (xm_i (nI p)), some (xm_i (1 : Int32)), none]) rfl ?_
  refine pg_95_2 ?_
  refine pg_95_3 (lv' := [some (xm_r (20, 0, 0)), some (xm_i (nI p)), some (xm_i (1 : Int32)), some (xm_i (0 : Int32))]) rfl ?_
  refine (lq_li (N := 4) (f := sp_95_4 n p) (s0 := (true, fi)) (P := fun i1 s1 => xm_G E (d + 2) true 95 4 [some (xm_r (20, 0, 0)), some (xm_i (nI p)), some (xm_i (bI s1.1)), some (xm_i (nI i1))] [] (c, s1.2, fl, r) R) (I := fun i1 s1 => kp [2036, 2039, 2137, 2138] fi s1.2) (kp_re [2036, 2039, 2137, 2138] _) (fun i1 s1 hi1 hk1 => kp_tr hk1 rfl (kp_sp_95_4 n p i1 s1)) ?_ ?_)
  · intro i1 s1 hi1 hk1 K1
    show xm_G E (d + 2) true 95 4 [some (xm_r (20, 0, 0)), some (xm_i (nI p)), some (xm_i (bI s1.1)), some (xm_i (nI i1))] [] (c, s1.2, fl, r) R
    refine pg_95_4 rfl ?_
    refine pg_95_5 ?_
    refine pg_95_6 (fun hc => absurd hc (nx_nle (a := i1) (b := 4) rfl (rfl : (4 : Int32) = nI 4) (by omega) (by omega))) (fun _ => ?_)
    refine pg_95_9 rfl ?_
    refine pg_95_10 rfl ?_
    refine pg_95_11 rfl ?_
    refine pg_95_12 (sk20 hs) (Nat.le_of_ble_eq_true rfl) (ct_96 (p := p) (o := i1) hs (by omega) (by omega) (fz_kp hf (kp_tr (kp_tr (kp_re [2036, 2039, 2111, 2112, 2113, 2114, 2115, 2137, 2138] fi) rfl hk1) rfl (kp_re [2036, 2039, 2137, 2138] s1.2)) rfl rfl rfl) (bz_kp hb34 (kp_tr (kp_tr (kp_re [2036, 2039, 2111, 2112, 2113, 2114, 2115, 2137, 2138] fi) rfl hk1) rfl (kp_re [2036, 2039, 2137, 2138] s1.2)) rfl)) ?_
    suffices KJ : xm_G E (d + 2) true 95 27 [some (xm_r (20, 0, 0)), some (xm_i (nI p)), some (xm_i (bI s1.1)), some (xm_i (nI i1))] [xm_i (bI (if (bI ((sp_96 n s1.2 p i1).1)) = 0 then false else (if (bI s1.1) = 0 then false else true)))] (c, ((sp_96 n s1.2 p i1).2), fl, r) R by
      refine pg_95_15 (fun hc1 => ?_) (fun hc2 => ?_)
      · refine pg_95_26 ?_
        repeat rw [if_pos hc1] at KJ
        repeat rw [if_pos hc1]
        exact KJ
      · refine pg_95_18 rfl ?_
        refine pg_95_19 (fun hc3 => ?_) (fun hc4 => ?_)
        · refine pg_95_26 ?_
          repeat rw [if_neg hc2] at KJ
          repeat rw [if_pos hc3] at KJ
          repeat rw [if_neg hc2]
          repeat rw [if_pos hc3]
          exact KJ
        · refine pg_95_22 ?_
          refine pg_95_23 ?_
          repeat rw [if_neg hc2] at KJ
          repeat rw [if_neg hc4] at KJ
          repeat rw [if_neg hc2]
          repeat rw [if_neg hc4]
          exact KJ
    refine pg_95_27 (lv' := [some (xm_r (20, 0, 0)), some (xm_i (nI p)), some (xm_i (bI (if (bI ((sp_96 n s1.2 p i1).1)) = 0 then false else (if (bI s1.1) = 0 then false else true)))), some (xm_i (nI i1))]) rfl ?_
    refine pg_95_28 (y := (nI (i1 + 1))) (lv' := [some (xm_r (20, 0, 0)), some (xm_i (nI p)), some (xm_i (bI (if (bI ((sp_96 n s1.2 p i1).1)) = 0 then false else (if (bI s1.1) = 0 then false else true)))), some (xm_i (nI (i1 + 1)))]) rfl (nI_1 i1) rfl ?_
    refine pg_95_31 ?_
    exact K1 (if (bI ((sp_96 n s1.2 p i1).1)) = 0 then false else (if (bI s1.1) = 0 then false else true), ((sp_96 n s1.2 p i1).2)) (by unfold sp_95_4; all_goals rfl)
  · intro hd1x5
    show xm_G E (d + 2) true 95 4 [some (xm_r (20, 0, 0)), some (xm_i (nI p)), some (xm_i (bI ((lq_it 4 (sp_95_4 n p) (true, fi)).1))), some (xm_i (nI 4))] [] (c, ((lq_it 4 (sp_95_4 n p) (true, fi)).2), fl, r) R
    refine pg_95_4 rfl ?_
    refine pg_95_5 ?_
    refine pg_95_6 (fun _ => ?_) (fun hc => absurd (nx_le (a := 4) (b := 4) rfl (rfl : (4 : Int32) = nI 4) (by omega) (by omega)) hc)
    refine pg_95_34 ?_
    refine pg_95_35 (lv' := [some (xm_r (20, 0, 0)), some (xm_i (nI p)), some (xm_i (bI ((lq_it 4 (sp_95_4 n p) (true, fi)).1))), some (xm_i (0 : Int32))]) rfl ?_
    refine (lq_li (N := 4) (f := sp_95_36 n fi p) (s0 := ((lq_it 4 (sp_95_4 n p) (true, fi)).2)) (P := fun i1 s1 => xm_G E (d + 2) true 95 36 [some (xm_r (20, 0, 0)), some (xm_i (nI p)), some (xm_i (bI ((lq_it 4 (sp_95_4 n p) (true, fi)).1))), some (xm_i (nI i1))] [] (c, s1, fl, r) R) (I := fun i1 s1 => kp [2036, 2039, 2112, 2113, 2114, 2115, 2137, 2138] ((lq_it 4 (sp_95_4 n p) (true, fi)).2) s1 ∧ bz 14 s1) (⟨kp_re [2036, 2039, 2112, 2113, 2114, 2115, 2137, 2138] _, bz_it (p := fun (s : Bool × FI) => s.2) hb14 (fun i s h => bz_kp h (kp_sp_95_4 n p i s) rfl)⟩) (fun i1 s1 hi1 hz => by obtain ⟨hk1, hv1⟩ := hz; exact ⟨kp_tr hk1 rfl (kp_sp_95_36 n fi p i1 s1), bz_95_36 n fi p i1 s1 hv1⟩) ?_ ?_)
    · intro i1 s1 hi1 hz K1
      obtain ⟨hk1, hv1⟩ := hz
      show xm_G E (d + 2) true 95 36 [some (xm_r (20, 0, 0)), some (xm_i (nI p)), some (xm_i (bI ((lq_it 4 (sp_95_4 n p) (true, fi)).1))), some (xm_i (nI i1))] [] (c, s1, fl, r) R
      refine pg_95_36 rfl ?_
      refine pg_95_37 ?_
      refine pg_95_38 (fun hc => absurd hc (nx_nle (a := i1) (b := 4) rfl (rfl : (4 : Int32) = nI 4) (by omega) (by omega))) (fun _ => ?_)
      refine pg_95_41 rfl ?_
      refine pg_95_42 rfl ?_
      refine pg_95_43 rfl ?_
      refine pg_95_44 (sk20 hs) (Nat.le_of_ble_eq_true rfl) (ct_96 (p := p) (o := i1) hs (by omega) (by omega) (fz_kp hf (kp_tr (kp_tr (kp_tr (kp_re [2036, 2039, 2111, 2112, 2113, 2114, 2115, 2137, 2138] fi) rfl (kp_it (L := [2036, 2039, 2137, 2138]) (p := fun (s : Bool × FI) => s.2) (N := 4) (F := sp_95_4 n p) (s0 := (true, fi)) (kp_re [2036, 2039, 2137, 2138] fi) (fun i s => kp_sp_95_4 n p i s))) rfl hk1) rfl (kp_re [2036, 2039, 2112, 2113, 2114, 2115, 2137, 2138] s1)) rfl rfl rfl) (bz_kp hb34 (kp_tr (kp_tr (kp_tr (kp_re [2036, 2039, 2111, 2112, 2113, 2114, 2115, 2137, 2138] fi) rfl (kp_it (L := [2036, 2039, 2137, 2138]) (p := fun (s : Bool × FI) => s.2) (N := 4) (F := sp_95_4 n p) (s0 := (true, fi)) (kp_re [2036, 2039, 2137, 2138] fi) (fun i s => kp_sp_95_4 n p i s))) rfl hk1) rfl (kp_re [2036, 2039, 2112, 2113, 2114, 2115, 2137, 2138] s1)) rfl)) ?_
      refine pg_95_47 (fun hc6 => ?_) (fun hc7 => ?_)
      · refine pg_95_73 (y := (nI (i1 + 1))) (lv' := [some (xm_r (20, 0, 0)), some (xm_i (nI p)), some (xm_i (bI ((lq_it 4 (sp_95_4 n p) (true, fi)).1))), some (xm_i (nI (i1 + 1)))]) rfl (nI_1 i1) rfl ?_
        refine pg_95_76 ?_
        exact K1 ((sp_96 n s1 p i1).2) (by unfold sp_95_36; try rw [if_pos hc6]; all_goals rfl)
      · refine pg_95_50 rfl ?_
        refine pg_95_51 (sk20 hs) (sr20_11 hs) ?_
        refine pg_95_54 rfl ?_
        refine pg_95_55 (sk21_11 hs) (i := p) rfl (by omega) (by omega) ?_
        refine pg_95_56 (fun hc8 => ?_) (fun hc9 => ?_)
        · refine pg_95_63 rfl ?_
          refine pg_95_64 rfl ?_
          refine pg_95_65 rfl ?_
          refine pg_95_66 rfl ?_
          refine pg_95_67 (sk20 hs) ?_
          refine pg_95_70 (sk20 hs) (Nat.le_of_ble_eq_true rfl) (ct_97 (p := p) (o := i1) (v := (((sp_96 n s1 p i1).2) (20, 0, 0) 39)) hs (by omega) (fz_kp hf (kp_tr (kp_tr (kp_tr (kp_re [2036, 2039, 2111, 2112, 2113, 2114, 2115, 2137, 2138] fi) rfl (kp_it (L := [2036, 2039, 2137, 2138]) (p := fun (s : Bool × FI) => s.2) (N := 4) (F := sp_95_4 n p) (s0 := (true, fi)) (kp_re [2036, 2039, 2137, 2138] fi) (fun i s => kp_sp_95_4 n p i s))) rfl hk1) rfl (kp_tr (kp_re [2036, 2039, 2112, 2113, 2114, 2115, 2137, 2138] s1) rfl (kp_sp_96 n s1 p i1))) rfl rfl rfl) (bz_kp hv1 (kp_tr (kp_re [2036, 2039, 2112, 2113, 2115, 2137, 2138] s1) rfl (kp_sp_96 n s1 p i1)) rfl)) ?_
          refine pg_95_73 (y := (nI (i1 + 1))) (lv' := [some (xm_r (20, 0, 0)), some (xm_i (nI p)), some (xm_i (bI ((lq_it 4 (sp_95_4 n p) (true, fi)).1))), some (xm_i (nI (i1 + 1)))]) rfl (nI_1 i1) rfl ?_
          refine pg_95_76 ?_
          exact K1 (sp_97 n ((sp_96 n s1 p i1).2) p i1 (((sp_96 n s1 p i1).2) (20, 0, 0) 39)) (by unfold sp_95_36; try rw [if_neg hc7]; try rw [if_pos hc8]; all_goals rfl)
        · refine pg_95_59 rfl ?_
          refine pg_95_60 (fun hc10 => ?_) (fun hc11 => ?_)
          · refine pg_95_73 (y := (nI (i1 + 1))) (lv' := [some (xm_r (20, 0, 0)), some (xm_i (nI p)), some (xm_i (bI ((lq_it 4 (sp_95_4 n p) (true, fi)).1))), some (xm_i (nI (i1 + 1)))]) rfl (nI_1 i1) rfl ?_
            refine pg_95_76 ?_
            exact K1 ((sp_96 n s1 p i1).2) (by unfold sp_95_36; try rw [if_neg hc7]; try rw [if_neg hc9]; try rw [if_pos hc10]; all_goals rfl)
          · refine pg_95_63 rfl ?_
            refine pg_95_64 rfl ?_
            refine pg_95_65 rfl ?_
            refine pg_95_66 rfl ?_
            refine pg_95_67 (sk20 hs) ?_
            refine pg_95_70 (sk20 hs) (Nat.le_of_ble_eq_true rfl) (ct_97 (p := p) (o := i1) (v := (((sp_96 n s1 p i1).2) (20, 0, 0) 39)) hs (by omega) (fz_kp hf (kp_tr (kp_tr (kp_tr (kp_re [2036, 2039, 2111, 2112, 2113, 2114, 2115, 2137, 2138] fi) rfl (kp_it (L := [2036, 2039, 2137, 2138]) (p := fun (s : Bool × FI) => s.2) (N := 4) (F := sp_95_4 n p) (s0 := (true, fi)) (kp_re [2036, 2039, 2137, 2138] fi) (fun i s => kp_sp_95_4 n p i s))) rfl hk1) rfl (kp_tr (kp_re [2036, 2039, 2112, 2113, 2114, 2115, 2137, 2138] s1) rfl (kp_sp_96 n s1 p i1))) rfl rfl rfl) (bz_kp hv1 (kp_tr (kp_re [2036, 2039, 2112, 2113, 2115, 2137, 2138] s1) rfl (kp_sp_96 n s1 p i1)) rfl)) ?_
            refine pg_95_73 (y := (nI (i1 + 1))) (lv' := [some (xm_r (20, 0, 0)), some (xm_i (nI p)), some (xm_i (bI ((lq_it 4 (sp_95_4 n p) (true, fi)).1))), some (xm_i (nI (i1 + 1)))]) rfl (nI_1 i1) rfl ?_
            refine pg_95_76 ?_
            exact K1 (sp_97 n ((sp_96 n s1 p i1).2) p i1 (((sp_96 n s1 p i1).2) (20, 0, 0) 39)) (by unfold sp_95_36; try rw [if_neg hc7]; try rw [if_neg hc9]; try rw [if_neg hc11]; all_goals rfl)
    · intro hz
      obtain ⟨hd1x12, wv36⟩ := hz
      show xm_G E (d + 2) true 95 36 [some (xm_r (20, 0, 0)), some (xm_i (nI p)), some (xm_i (bI ((lq_it 4 (sp_95_4 n p) (true, fi)).1))), some (xm_i (nI 4))] [] (c, (lq_it 4 (sp_95_36 n fi p) ((lq_it 4 (sp_95_4 n p) (true, fi)).2)), fl, r) R
      refine pg_95_36 rfl ?_
      refine pg_95_37 ?_
      refine pg_95_38 (fun _ => ?_) (fun hc => absurd (nx_le (a := 4) (b := 4) rfl (rfl : (4 : Int32) = nI 4) (by omega) (by omega)) hc)
      refine pg_95_79 rfl ?_
      refine pg_95_80 (sk20 hs) (sr20_11 hs) ?_
      refine pg_95_83 rfl ?_
      refine pg_95_84 rfl ?_
      refine pg_95_85 (sk20 hs) (sr20_11 hs) ?_
      refine pg_95_88 rfl ?_
      refine pg_95_89 (sk21_11 hs) (i := p) rfl (by omega) (by omega) ?_
      suffices KJ : xm_G E (d + 2) true 95 102 [some (xm_r (20, 0, 0)), some (xm_i (nI p)), some (xm_i (bI ((lq_it 4 (sp_95_4 n p) (true, fi)).1))), some (xm_i (nI 4))] [xm_i (bI (if ((lq_it 4 (sp_95_36 n fi p) ((lq_it 4 (sp_95_4 n p) (true, fi)).2)) (21, 11, 0) p) = 0 then false else (if (bI ((lq_it 4 (sp_95_4 n p) (true, fi)).1)) = 0 then true else false))), xm_i (nI p), xm_r (21, 11, 0)] (c, (lq_it 4 (sp_95_36 n fi p) ((lq_it 4 (sp_95_4 n p) (true, fi)).2)), fl, r) R by
        refine pg_95_90 (fun hc13 => ?_) (fun hc14 => ?_)
        · refine pg_95_101 ?_
          repeat rw [if_pos hc13] at KJ
          repeat rw [if_pos hc13]
          exact KJ
        · refine pg_95_93 rfl ?_
          refine pg_95_94 (fun hc15 => ?_) (fun hc16 => ?_)
          · refine pg_95_101 ?_
            repeat rw [if_neg hc14] at KJ
            repeat rw [if_neg hc15] at KJ
            repeat rw [if_neg hc14]
            repeat rw [if_neg hc15]
            exact KJ
          · refine pg_95_97 ?_
            refine pg_95_98 ?_
            repeat rw [if_neg hc14] at KJ
            repeat rw [if_pos hc16] at KJ
            repeat rw [if_neg hc14]
            repeat rw [if_pos hc16]
            exact KJ
      refine pg_95_102 (sk21_11 hs) (i := p) rfl (by omega) (by omega) (bI_01 _) ?_
      exact go_eq (hR.symm.trans (by unfold sp_95; all_goals rfl)) (pg_95_103)
-- 92: Model.sendStates
def sp_92_9 (n : Nat) (i1 : Nat) (i2 : Nat) (s2 : FI) : FI := (xm_up s2 (21, 33, 0) ((6 * i1) + i2) (sp_93 n s2 i2 i1))
theorem kp_sp_92_9 (n : Nat) (i1 : Nat) (i2 : Nat) (s2 : FI) : kp [2133] s2 (sp_92_9 n i1 i2 s2) := by
  unfold sp_92_9
  exact (kp_up (kp_re [2133] s2) rfl)
def sp_92_2 (n : Nat) (i1 : Nat) (s1 : FI) : FI := (lq_it n (sp_92_9 n i1) s1)
theorem kp_sp_92_2 (n : Nat) (i1 : Nat) (s1 : FI) : kp [2133] s1 (sp_92_2 n i1 s1) := by
  unfold sp_92_2
  exact (kp_tr (kp_re [2133] s1) rfl (kp_it (L := [2133]) (p := fun (s : FI) => s) (N := n) (F := sp_92_9 n i1) (s0 := s1) (kp_re [2133] s1) (fun i s => kp_sp_92_9 n i1 i s)))
def sp_92_48 (i1 : Nat) (s1 : FI) : FI := (xm_up s1 (21, 34, 0) i1 (0 : Int32))
theorem kp_sp_92_48 (i1 : Nat) (s1 : FI) : kp [2134] s1 (sp_92_48 i1 s1) := by
  unfold sp_92_48
  exact (kp_up (kp_re [2134] s1) rfl)
def sp_92_80 (n : Nat) (i1 : Nat) (i2 : Nat) (s2 : FI × FL) : FI × FL := (((sp_94 n s2.1 s2.2 i1 i2).1), ((sp_94 n s2.1 s2.2 i1 i2).2))
theorem kp_sp_92_80 (n : Nat) (i1 : Nat) (i2 : Nat) (s2 : FI × FL) : kp [2023, 2025, 2124, 2134, 2135] s2.1 ((sp_92_80 n i1 i2 s2).1) := by
  unfold sp_92_80
  exact (kp_tr (kp_re [2023, 2025, 2124, 2134, 2135] s2.1) rfl (kp_sp_94 n s2.1 s2.2 i1 i2))
def sp_92_70 (n : Nat) (i1 : Nat) (s1 : FI × FL) : FI × FL := if (s1.1 (21, 11, 0) i1) = 0 then ((((lq_it 4 (sp_92_80 n i1) (s1.1, s1.2)).1), ((lq_it 4 (sp_92_80 n i1) (s1.1, s1.2)).2))) else ((s1.1, s1.2))
theorem kp_sp_92_70 (n : Nat) (i1 : Nat) (s1 : FI × FL) : kp [2023, 2025, 2124, 2134, 2135] s1.1 ((sp_92_70 n i1 s1).1) := by
  unfold sp_92_70
  rcases Classical.em ((s1.1 (21, 11, 0) i1) = 0) with hc | hc
  · (try rw [if_pos hc])
    exact (kp_tr (kp_re [2023, 2025, 2124, 2134, 2135] s1.1) rfl (kp_it (L := [2023, 2025, 2124, 2134, 2135]) (p := fun (s : FI × FL) => s.1) (N := 4) (F := sp_92_80 n i1) (s0 := (s1.1, s1.2)) (kp_re [2023, 2025, 2124, 2134, 2135] s1.1) (fun i s => kp_sp_92_80 n i1 i s)))
  · (try rw [if_neg hc])
    exact (kp_re [2023, 2025, 2124, 2134, 2135] s1.1)
def sp_92_114 (n : Nat) (i1 : Nat) (s1 : FI) : FI := (sp_95 n s1 i1)
theorem kp_sp_92_114 (n : Nat) (i1 : Nat) (s1 : FI) : kp [2036, 2039, 2111, 2112, 2113, 2114, 2115, 2137, 2138] s1 (sp_92_114 n i1 s1) := by
  unfold sp_92_114
  exact (kp_tr (kp_re [2036, 2039, 2111, 2112, 2113, 2114, 2115, 2137, 2138] s1) rfl (kp_sp_95 n s1 i1))
def sp_92 (n : Nat) (fi : FI) (fl : FL) : FI × FL := ((lq_it n (sp_92_114 n) ((lq_it n (sp_92_70 n) ((lq_it 144 sp_92_48 (lq_it 4 (sp_92_2 n) fi)), fl)).1)), ((lq_it n (sp_92_70 n) ((lq_it 144 sp_92_48 (lq_it 4 (sp_92_2 n) fi)), fl)).2))
theorem kp_sp_92 (n : Nat) (fi : FI) (fl : FL) : kp [2023, 2025, 2036, 2039, 2111, 2112, 2113, 2114, 2115, 2124, 2133, 2134, 2135, 2137, 2138] fi ((sp_92 n fi fl).1) := by
  unfold sp_92
  exact (kp_tr (kp_tr (kp_tr (kp_tr (kp_re [2023, 2025, 2036, 2039, 2111, 2112, 2113, 2114, 2115, 2124, 2133, 2134, 2135, 2137, 2138] fi) rfl (kp_it (L := [2133]) (p := fun (s : FI) => s) (N := 4) (F := sp_92_2 n) (s0 := fi) (kp_re [2133] fi) (fun i s => kp_sp_92_2 n i s))) rfl (kp_it (L := [2134]) (p := fun (s : FI) => s) (N := 144) (F := sp_92_48) (s0 := (lq_it 4 (sp_92_2 n) fi)) (kp_re [2134] (lq_it 4 (sp_92_2 n) fi)) (fun i s => kp_sp_92_48 i s))) rfl (kp_it (L := [2023, 2025, 2124, 2134, 2135]) (p := fun (s : FI × FL) => s.1) (N := n) (F := sp_92_70 n) (s0 := ((lq_it 144 sp_92_48 (lq_it 4 (sp_92_2 n) fi)), fl)) (kp_re [2023, 2025, 2124, 2134, 2135] (lq_it 144 sp_92_48 (lq_it 4 (sp_92_2 n) fi))) (fun i s => kp_sp_92_70 n i s))) rfl (kp_it (L := [2036, 2039, 2111, 2112, 2113, 2114, 2115, 2137, 2138]) (p := fun (s : FI) => s) (N := n) (F := sp_92_114 n) (s0 := ((lq_it n (sp_92_70 n) ((lq_it 144 sp_92_48 (lq_it 4 (sp_92_2 n) fi)), fl)).1)) (kp_re [2036, 2039, 2111, 2112, 2113, 2114, 2115, 2137, 2138] ((lq_it n (sp_92_70 n) ((lq_it 144 sp_92_48 (lq_it 4 (sp_92_2 n) fi)), fl)).1)) (fun i s => kp_sp_92_114 n i s)))
theorem bz34_79 (fi : FI) (p : Nat) (g : Int32) {f : Nat} (hf : ¬ f = 24) (h : bz f fi) : bz f (sp_79 fi p g) := by
  unfold sp_79
  exact bz_ne h hf
theorem bz34_94 (n : Nat) (fi : FI) (fl : FL) (p o : Nat) (h : bz 34 fi) : bz 34 (sp_94 n fi fl p o).1 := by
  unfold sp_94
  show bz 34 (lq_it n (sp_94_23 fi p o) _).1
  refine bz_it (p := fun (s : FI × FL) => s.1) ?_ (fun i s hs => ?_)
  · exact bz_kp h (kp_sp_72 fi p (nI (4 + o)) (fi (21, 33, 0) (6 * o + p))) rfl
  show bz 34 (sp_94_23 _ _ _ i s).1
  unfold sp_94_23
  split
  · exact hs
  · exact bz34_79 _ _ _ (by decide) (bz_ne (bz_up (bz_kp hs (kp_sp_75 _ _ _ _ _) rfl) (bI_01 _)) (by decide))
theorem bz34_92_70 (n i1 : Nat) (s : FI × FL) (h : bz 34 s.1) : bz 34 (sp_92_70 n i1 s).1 := by
  unfold sp_92_70
  split
  · show bz 34 (lq_it 4 (sp_92_80 n i1) _).1
    exact bz_it (p := fun (s : FI × FL) => s.1) h (fun i s hs => bz34_94 n s.1 s.2 i1 i hs)
  · exact h
theorem bz_92a (n : Nat) (fi : FI) (fl : FL) (h34 : bz 34 fi) (h14 : bz 14 fi) : bz 34 (lq_it n (sp_92_70 n) ((lq_it 144 sp_92_48 (lq_it 4 (sp_92_2 n) fi)), fl)).1 ∧ bz 14 (lq_it n (sp_92_70 n) ((lq_it 144 sp_92_48 (lq_it 4 (sp_92_2 n) fi)), fl)).1 := by
  constructor
  · refine bz_it (p := fun (s : FI × FL) => s.1) ?_ (fun i s hs => bz34_92_70 n i s hs)
    refine bz_it (p := fun (s : FI) => s) ?_ (fun i s hs => bz_up hs (Or.inl rfl))
    exact bz_it (p := fun (s : FI) => s) h34 (fun i s hs => bz_kp hs (kp_sp_92_2 n i s) rfl)
  · refine bz_it (p := fun (s : FI × FL) => s.1) ?_ (fun i s hs => bz_kp (f := 14) hs (kp_sp_92_70 n i s) rfl)
    refine bz_it (p := fun (s : FI) => s) ?_ (fun i s hs => bz_kp (f := 14) hs (kp_sp_92_48 i s) rfl)
    exact bz_it (p := fun (s : FI) => s) h14 (fun i s hs => bz_kp hs (kp_sp_92_2 n i s) rfl)
set_option maxRecDepth 4000 in
theorem ct_92 {n : Nat} {E : xm_E} {c : Nat × Nat} {fi : FI} {fl : FL} {r : xm_I → Nat → Option xm_I} {d : Nat} (hs : sh n E c r) (hf : fz n fi) (hb34 : bz 34 fi) (hb14 : bz 14 fi) : xm_C E (d + 5) true 92 [xm_r (20, 0, 0)] (c, fi, fl, r) (.inl (none), (c, (sp_92 n fi fl).1, (sp_92 n fi fl).2, r)) := by
  have hn := sh_n hs
  suffices key : ∀ R : xm_O, ((.inl (none), (c, (sp_92 n fi fl).1, (sp_92 n fi fl).2, r)) : xm_O) = R → xm_G E (d + 4) true 92 0 [some (xm_r (20, 0, 0)), none, none] [] (c, fi, fl, r) R from go_inr (by decide) (Nat.le_of_ble_eq_true rfl) (key _ rfl)
  intro R hR
  refine pg_92_0 ?_
  refine pg_92_1 (lv' := [some (xm_r (20, 0, 0)), some (xm_i (0 : Int32)), none]) rfl ?_
  refine (lq_li (N := 4) (f := sp_92_2 n) (s0 := fi) (P := fun i1 s1 => ∀ u2 : Option xm_V, xm_G E (d + 4) true 92 2 [some (xm_r (20, 0, 0)), some (xm_i (nI i1)), u2] [] (c, s1, fl, r) R) (I := fun i1 s1 => kp [2133] fi s1) (kp_re [2133] _) (fun i1 s1 hi1 hk1 => kp_tr hk1 rfl (kp_sp_92_2 n i1 s1)) ?_ ?_) _
  · intro i1 s1 hi1 hk1 K1 u2
    show xm_G E (d + 4) true 92 2 [some (xm_r (20, 0, 0)), some (xm_i (nI i1)), u2] [] (c, s1, fl, r) R
    refine pg_92_2 rfl ?_
    refine pg_92_3 ?_
    refine pg_92_4 (fun hc => absurd hc (nx_nle (a := i1) (b := 4) rfl (rfl : (4 : Int32) = nI 4) (by omega) (by omega))) (fun _ => ?_)
    refine pg_92_7 ?_
    refine pg_92_8 (lv' := [some (xm_r (20, 0, 0)), some (xm_i (nI i1)), some (xm_i (0 : Int32))]) rfl ?_
    refine (lq_li (N := n) (f := sp_92_9 n i1) (s0 := s1) (P := fun i2 s2 => xm_G E (d + 4) true 92 9 [some (xm_r (20, 0, 0)), some (xm_i (nI i1)), some (xm_i (nI i2))] [] (c, s2, fl, r) R) (I := fun i2 s2 => kp [2133] s1 s2) (kp_re [2133] _) (fun i2 s2 hi2 hk2 => kp_tr hk2 rfl (kp_sp_92_9 n i1 i2 s2)) ?_ ?_)
    · intro i2 s2 hi2 hk2 K2
      show xm_G E (d + 4) true 92 9 [some (xm_r (20, 0, 0)), some (xm_i (nI i1)), some (xm_i (nI i2))] [] (c, s2, fl, r) R
      refine pg_92_9 rfl ?_
      refine pg_92_10 rfl ?_
      refine pg_92_11 (sk20 hs) ?_
      refine go_top (y := nI n) (fz_kp hf (kp_tr (kp_tr (kp_re [2023, 2025, 2036, 2039, 2111, 2112, 2113, 2114, 2115, 2124, 2133, 2134, 2135, 2137, 2138] fi) rfl hk1) rfl (kp_tr (kp_tr (kp_re [2133] s1) rfl hk2) rfl (kp_re [2133] s2))) rfl rfl rfl).2 ?_
      refine pg_92_14 (fun hc => absurd hc (nx_nle (a := i2) (b := n) rfl rfl (by omega) (by omega))) (fun _ => ?_)
      refine pg_92_17 rfl ?_
      refine pg_92_18 (sk20 hs) (sr20_33 hs) ?_
      refine pg_92_21 ?_
      refine pg_92_23 rfl ?_
      refine pg_92_24 ?_
      refine go_top (y := nI (6 * i1)) (nx_mul (rfl : (6 : Int32) = nI 6) rfl) ?_
      refine pg_92_25 rfl ?_
      refine pg_92_26 ?_
      refine go_top (y := nI ((6 * i1) + i2)) (nx_add rfl rfl) ?_
      refine pg_92_27 rfl ?_
      refine pg_92_28 rfl ?_
      refine pg_92_29 rfl ?_
      refine pg_92_30 (sk20 hs) (Nat.le_of_ble_eq_true rfl) (ct_93 (p := i2) (o := i1) hs (by omega) (fz_kp hf (kp_tr (kp_tr (kp_re [2023, 2025, 2036, 2039, 2111, 2112, 2113, 2114, 2115, 2124, 2133, 2134, 2135, 2137, 2138] fi) rfl hk1) rfl (kp_tr (kp_tr (kp_re [2133] s1) rfl hk2) rfl (kp_re [2133] s2))) rfl rfl rfl)) ?_
      refine pg_92_33 (sk21_33 hs) (i := ((6 * i1) + i2)) rfl (by omega) (by omega) ?_
      refine pg_92_34 (y := (nI (i2 + 1))) (lv' := [some (xm_r (20, 0, 0)), some (xm_i (nI i1)), some (xm_i (nI (i2 + 1)))]) rfl (nI_1 i2) rfl ?_
      refine pg_92_37 ?_
      exact K2 (xm_up s2 (21, 33, 0) ((6 * i1) + i2) (sp_93 n s2 i2 i1)) (by unfold sp_92_9; all_goals rfl)
    · intro hd2x1
      show xm_G E (d + 4) true 92 9 [some (xm_r (20, 0, 0)), some (xm_i (nI i1)), some (xm_i (nI n))] [] (c, (lq_it n (sp_92_9 n i1) s1), fl, r) R
      refine pg_92_9 rfl ?_
      refine pg_92_10 rfl ?_
      refine pg_92_11 (sk20 hs) ?_
      refine go_top (y := nI n) (fz_kp hf (kp_tr (kp_tr (kp_re [2023, 2025, 2036, 2039, 2111, 2112, 2113, 2114, 2115, 2124, 2133, 2134, 2135, 2137, 2138] fi) rfl hk1) rfl (kp_tr (kp_re [2133] s1) rfl (kp_it (L := [2133]) (p := fun (s : FI) => s) (N := n) (F := sp_92_9 n i1) (s0 := s1) (kp_re [2133] s1) (fun i s => kp_sp_92_9 n i1 i s)))) rfl rfl rfl).2 ?_
      refine pg_92_14 (fun _ => ?_) (fun hc => absurd (nx_le (a := n) (b := n) rfl rfl (by omega) (by omega)) hc)
      refine pg_92_40 (y := (nI (i1 + 1))) (lv' := [some (xm_r (20, 0, 0)), some (xm_i (nI (i1 + 1))), some (xm_i (nI n))]) rfl (nI_1 i1) rfl ?_
      refine pg_92_43 ?_
      exact K1 (lq_it n (sp_92_9 n i1) s1) (by unfold sp_92_2; all_goals rfl) _
  · intro hd1x2 u2
    show xm_G E (d + 4) true 92 2 [some (xm_r (20, 0, 0)), some (xm_i (nI 4)), u2] [] (c, (lq_it 4 (sp_92_2 n) fi), fl, r) R
    refine pg_92_2 rfl ?_
    refine pg_92_3 ?_
    refine pg_92_4 (fun _ => ?_) (fun hc => absurd (nx_le (a := 4) (b := 4) rfl (rfl : (4 : Int32) = nI 4) (by omega) (by omega)) hc)
    refine pg_92_46 ?_
    refine pg_92_47 (lv' := [some (xm_r (20, 0, 0)), some (xm_i (0 : Int32)), u2]) rfl ?_
    refine (lq_li (N := 144) (f := sp_92_48) (s0 := (lq_it 4 (sp_92_2 n) fi)) (P := fun i1 s1 => xm_G E (d + 4) true 92 48 [some (xm_r (20, 0, 0)), some (xm_i (nI i1)), u2] [] (c, s1, fl, r) R) (I := fun i1 s1 => kp [2134] (lq_it 4 (sp_92_2 n) fi) s1) (kp_re [2134] _) (fun i1 s1 hi1 hk1 => kp_tr hk1 rfl (kp_sp_92_48 i1 s1)) ?_ ?_)
    · intro i1 s1 hi1 hk1 K1
      show xm_G E (d + 4) true 92 48 [some (xm_r (20, 0, 0)), some (xm_i (nI i1)), u2] [] (c, s1, fl, r) R
      refine pg_92_48 rfl ?_
      refine pg_92_49 ?_
      refine pg_92_52 (fun hc => absurd hc (nx_nle (a := i1) (b := 144) rfl (rfl : (144 : Int32) = nI 144) (by omega) (by omega))) (fun _ => ?_)
      refine pg_92_55 rfl ?_
      refine pg_92_56 (sk20 hs) (sr20_34 hs) ?_
      refine pg_92_59 rfl ?_
      refine pg_92_60 ?_
      refine pg_92_61 (sk21_34 hs) (i := i1) rfl (by omega) (by omega) (Or.inl rfl) ?_
      refine pg_92_62 (y := (nI (i1 + 1))) (lv' := [some (xm_r (20, 0, 0)), some (xm_i (nI (i1 + 1))), u2]) rfl (nI_1 i1) rfl ?_
      refine pg_92_65 ?_
      exact K1 (xm_up s1 (21, 34, 0) i1 (0 : Int32)) (by unfold sp_92_48; all_goals rfl)
    · intro hd1x3
      show xm_G E (d + 4) true 92 48 [some (xm_r (20, 0, 0)), some (xm_i (nI 144)), u2] [] (c, (lq_it 144 sp_92_48 (lq_it 4 (sp_92_2 n) fi)), fl, r) R
      refine pg_92_48 rfl ?_
      refine pg_92_49 ?_
      refine pg_92_52 (fun _ => ?_) (fun hc => absurd (nx_le (a := 144) (b := 144) rfl (rfl : (144 : Int32) = nI 144) (by omega) (by omega)) hc)
      refine pg_92_68 ?_
      refine pg_92_69 (lv' := [some (xm_r (20, 0, 0)), some (xm_i (0 : Int32)), u2]) rfl ?_
      refine (lq_li (N := n) (f := sp_92_70 n) (s0 := ((lq_it 144 sp_92_48 (lq_it 4 (sp_92_2 n) fi)), fl)) (P := fun i1 s1 => ∀ u2 : Option xm_V, xm_G E (d + 4) true 92 70 [some (xm_r (20, 0, 0)), some (xm_i (nI i1)), u2] [] (c, s1.1, s1.2, r) R) (I := fun i1 s1 => kp [2023, 2025, 2124, 2134, 2135] (lq_it 144 sp_92_48 (lq_it 4 (sp_92_2 n) fi)) s1.1) (kp_re [2023, 2025, 2124, 2134, 2135] _) (fun i1 s1 hi1 hk1 => kp_tr hk1 rfl (kp_sp_92_70 n i1 s1)) ?_ ?_) _
      · intro i1 s1 hi1 hk1 K1 u2
        show xm_G E (d + 4) true 92 70 [some (xm_r (20, 0, 0)), some (xm_i (nI i1)), u2] [] (c, s1.1, s1.2, r) R
        refine pg_92_70 rfl ?_
        refine pg_92_71 rfl ?_
        refine pg_92_72 (sk20 hs) ?_
        refine go_top (y := nI n) (fz_kp hf (kp_tr (kp_tr (kp_tr (kp_tr (kp_re [2023, 2025, 2036, 2039, 2111, 2112, 2113, 2114, 2115, 2124, 2133, 2134, 2135, 2137, 2138] fi) rfl (kp_it (L := [2133]) (p := fun (s : FI) => s) (N := 4) (F := sp_92_2 n) (s0 := fi) (kp_re [2133] fi) (fun i s => kp_sp_92_2 n i s))) rfl (kp_it (L := [2134]) (p := fun (s : FI) => s) (N := 144) (F := sp_92_48) (s0 := (lq_it 4 (sp_92_2 n) fi)) (kp_re [2134] (lq_it 4 (sp_92_2 n) fi)) (fun i s => kp_sp_92_48 i s))) rfl hk1) rfl (kp_re [2023, 2025, 2124, 2134, 2135] s1.1)) rfl rfl rfl).2 ?_
        refine pg_92_75 (fun hc => absurd hc (nx_nle (a := i1) (b := n) rfl rfl (by omega) (by omega))) (fun _ => ?_)
        refine pg_92_78 ?_
        refine pg_92_79 (lv' := [some (xm_r (20, 0, 0)), some (xm_i (nI i1)), some (xm_i (0 : Int32))]) rfl ?_
        rcases Classical.em ((s1.1 (21, 11, 0) i1) = 0) with hc4 | hc4
        · refine (lq_li (N := 4) (f := sp_92_80 n i1) (s0 := (s1.1, s1.2)) (P := fun i2 s2 => xm_G E (d + 4) true 92 80 [some (xm_r (20, 0, 0)), some (xm_i (nI i1)), some (xm_i (nI i2))] [] (c, s2.1, s2.2, r) R) (I := fun i2 s2 => kp [2023, 2025, 2124, 2134, 2135] s1.1 s2.1) (kp_re [2023, 2025, 2124, 2134, 2135] _) (fun i2 s2 hi2 hk2 => kp_tr hk2 rfl (kp_sp_92_80 n i1 i2 s2)) ?_ ?_)
          · intro i2 s2 hi2 hk2 K2
            show xm_G E (d + 4) true 92 80 [some (xm_r (20, 0, 0)), some (xm_i (nI i1)), some (xm_i (nI i2))] [] (c, s2.1, s2.2, r) R
            refine pg_92_80 rfl ?_
            refine pg_92_81 ?_
            refine pg_92_82 (fun hc => absurd hc (nx_nle (a := i2) (b := 4) rfl (rfl : (4 : Int32) = nI 4) (by omega) (by omega))) (fun _ => ?_)
            refine pg_92_85 rfl ?_
            refine pg_92_86 (sk20 hs) (sr20_11 hs) ?_
            refine pg_92_89 rfl ?_
            refine pg_92_90 (sk21_11 hs) (i := i1) rfl (by omega) (by omega) ?_
            refine pg_92_91 (fun hc => absurd (kp_at hk2 (21, 11, 0) i1 rfl hc4) hc) (fun _ => ?_)
            refine pg_92_94 rfl ?_
            refine pg_92_95 rfl ?_
            refine pg_92_96 rfl ?_
            refine pg_92_97 (sk20 hs) (Nat.le_of_ble_eq_true rfl) (ct_94 (p := i1) (o := i2) hs (by omega) (by omega) (fz_kp hf (kp_tr (kp_tr (kp_tr (kp_tr (kp_re [2023, 2025, 2036, 2039, 2111, 2112, 2113, 2114, 2115, 2124, 2133, 2134, 2135, 2137, 2138] fi) rfl (kp_it (L := [2133]) (p := fun (s : FI) => s) (N := 4) (F := sp_92_2 n) (s0 := fi) (kp_re [2133] fi) (fun i s => kp_sp_92_2 n i s))) rfl (kp_it (L := [2134]) (p := fun (s : FI) => s) (N := 144) (F := sp_92_48) (s0 := (lq_it 4 (sp_92_2 n) fi)) (kp_re [2134] (lq_it 4 (sp_92_2 n) fi)) (fun i s => kp_sp_92_48 i s))) rfl hk1) rfl (kp_tr (kp_tr (kp_re [2023, 2025, 2124, 2134, 2135] s1.1) rfl hk2) rfl (kp_re [2023, 2025, 2124, 2134, 2135] s2.1))) rfl rfl rfl)) ?_
            refine pg_92_100 (y := (nI (i2 + 1))) (lv' := [some (xm_r (20, 0, 0)), some (xm_i (nI i1)), some (xm_i (nI (i2 + 1)))]) rfl (nI_1 i2) rfl ?_
            refine pg_92_103 ?_
            exact K2 (((sp_94 n s2.1 s2.2 i1 i2).1), ((sp_94 n s2.1 s2.2 i1 i2).2)) (by unfold sp_92_80; all_goals rfl)
          · intro hd2x5
            show xm_G E (d + 4) true 92 80 [some (xm_r (20, 0, 0)), some (xm_i (nI i1)), some (xm_i (nI 4))] [] (c, ((lq_it 4 (sp_92_80 n i1) (s1.1, s1.2)).1), ((lq_it 4 (sp_92_80 n i1) (s1.1, s1.2)).2), r) R
            refine pg_92_80 rfl ?_
            refine pg_92_81 ?_
            refine pg_92_82 (fun _ => ?_) (fun hc => absurd (nx_le (a := 4) (b := 4) rfl (rfl : (4 : Int32) = nI 4) (by omega) (by omega)) hc)
            refine pg_92_106 (y := (nI (i1 + 1))) (lv' := [some (xm_r (20, 0, 0)), some (xm_i (nI (i1 + 1))), some (xm_i (nI 4))]) rfl (nI_1 i1) rfl ?_
            refine pg_92_109 ?_
            exact K1 (((lq_it 4 (sp_92_80 n i1) (s1.1, s1.2)).1), ((lq_it 4 (sp_92_80 n i1) (s1.1, s1.2)).2)) (by unfold sp_92_70; try rw [if_pos hc4]; all_goals rfl) _
        · refine pg_92_80 rfl ?_
          refine pg_92_81 ?_
          refine pg_92_82 (fun hc => absurd hc (by decide)) (fun _ => ?_)
          refine pg_92_85 rfl ?_
          refine pg_92_86 (sk20 hs) (sr20_11 hs) ?_
          refine pg_92_89 rfl ?_
          refine pg_92_90 (sk21_11 hs) (i := i1) rfl (by omega) (by omega) ?_
          refine pg_92_91 (fun _ => ?_) (fun hc => absurd hc hc4)
          refine pg_92_106 (y := (nI (i1 + 1))) (lv' := [some (xm_r (20, 0, 0)), some (xm_i (nI (i1 + 1))), some (xm_i (0 : Int32))]) rfl (nI_1 i1) rfl ?_
          refine pg_92_109 ?_
          exact K1 (s1.1, s1.2) (by unfold sp_92_70; try rw [if_neg hc4]; all_goals rfl) _
      · intro hd1x6 u2
        show xm_G E (d + 4) true 92 70 [some (xm_r (20, 0, 0)), some (xm_i (nI n)), u2] [] (c, ((lq_it n (sp_92_70 n) ((lq_it 144 sp_92_48 (lq_it 4 (sp_92_2 n) fi)), fl)).1), ((lq_it n (sp_92_70 n) ((lq_it 144 sp_92_48 (lq_it 4 (sp_92_2 n) fi)), fl)).2), r) R
        refine pg_92_70 rfl ?_
        refine pg_92_71 rfl ?_
        refine pg_92_72 (sk20 hs) ?_
        refine go_top (y := nI n) (fz_kp hf (kp_tr (kp_tr (kp_tr (kp_re [2023, 2025, 2036, 2039, 2111, 2112, 2113, 2114, 2115, 2124, 2133, 2134, 2135, 2137, 2138] fi) rfl (kp_it (L := [2133]) (p := fun (s : FI) => s) (N := 4) (F := sp_92_2 n) (s0 := fi) (kp_re [2133] fi) (fun i s => kp_sp_92_2 n i s))) rfl (kp_it (L := [2134]) (p := fun (s : FI) => s) (N := 144) (F := sp_92_48) (s0 := (lq_it 4 (sp_92_2 n) fi)) (kp_re [2134] (lq_it 4 (sp_92_2 n) fi)) (fun i s => kp_sp_92_48 i s))) rfl (kp_it (L := [2023, 2025, 2124, 2134, 2135]) (p := fun (s : FI × FL) => s.1) (N := n) (F := sp_92_70 n) (s0 := ((lq_it 144 sp_92_48 (lq_it 4 (sp_92_2 n) fi)), fl)) (kp_re [2023, 2025, 2124, 2134, 2135] (lq_it 144 sp_92_48 (lq_it 4 (sp_92_2 n) fi))) (fun i s => kp_sp_92_70 n i s))) rfl rfl rfl).2 ?_
        refine pg_92_75 (fun _ => ?_) (fun hc => absurd (nx_le (a := n) (b := n) rfl rfl (by omega) (by omega)) hc)
        refine pg_92_112 ?_
        refine pg_92_113 (lv' := [some (xm_r (20, 0, 0)), some (xm_i (0 : Int32)), u2]) rfl ?_
        refine (lq_li (N := n) (f := sp_92_114 n) (s0 := ((lq_it n (sp_92_70 n) ((lq_it 144 sp_92_48 (lq_it 4 (sp_92_2 n) fi)), fl)).1)) (P := fun i1 s1 => xm_G E (d + 4) true 92 114 [some (xm_r (20, 0, 0)), some (xm_i (nI i1)), u2] [] (c, s1, ((lq_it n (sp_92_70 n) ((lq_it 144 sp_92_48 (lq_it 4 (sp_92_2 n) fi)), fl)).2), r) R) (I := fun i1 s1 => kp [2036, 2039, 2111, 2112, 2113, 2114, 2115, 2137, 2138] ((lq_it n (sp_92_70 n) ((lq_it 144 sp_92_48 (lq_it 4 (sp_92_2 n) fi)), fl)).1) s1 ∧ (bz 34 s1 ∧ bz 14 s1)) (⟨kp_re [2036, 2039, 2111, 2112, 2113, 2114, 2115, 2137, 2138] _, bz_92a n fi fl hb34 hb14⟩) (fun i1 s1 hi1 hz => by obtain ⟨hk1, hv1⟩ := hz; exact ⟨kp_tr hk1 rfl (kp_sp_92_114 n i1 s1), ⟨bz_kp hv1.1 (kp_sp_95 n s1 i1) rfl, bz_95 n s1 i1 hv1.2⟩⟩) ?_ ?_)
        · intro i1 s1 hi1 hz K1
          obtain ⟨hk1, hv1⟩ := hz
          show xm_G E (d + 4) true 92 114 [some (xm_r (20, 0, 0)), some (xm_i (nI i1)), u2] [] (c, s1, ((lq_it n (sp_92_70 n) ((lq_it 144 sp_92_48 (lq_it 4 (sp_92_2 n) fi)), fl)).2), r) R
          refine pg_92_114 rfl ?_
          refine pg_92_115 rfl ?_
          refine pg_92_116 (sk20 hs) ?_
          refine go_top (y := nI n) (fz_kp hf (kp_tr (kp_tr (kp_tr (kp_tr (kp_tr (kp_re [2023, 2025, 2036, 2039, 2111, 2112, 2113, 2114, 2115, 2124, 2133, 2134, 2135, 2137, 2138] fi) rfl (kp_it (L := [2133]) (p := fun (s : FI) => s) (N := 4) (F := sp_92_2 n) (s0 := fi) (kp_re [2133] fi) (fun i s => kp_sp_92_2 n i s))) rfl (kp_it (L := [2134]) (p := fun (s : FI) => s) (N := 144) (F := sp_92_48) (s0 := (lq_it 4 (sp_92_2 n) fi)) (kp_re [2134] (lq_it 4 (sp_92_2 n) fi)) (fun i s => kp_sp_92_48 i s))) rfl (kp_it (L := [2023, 2025, 2124, 2134, 2135]) (p := fun (s : FI × FL) => s.1) (N := n) (F := sp_92_70 n) (s0 := ((lq_it 144 sp_92_48 (lq_it 4 (sp_92_2 n) fi)), fl)) (kp_re [2023, 2025, 2124, 2134, 2135] (lq_it 144 sp_92_48 (lq_it 4 (sp_92_2 n) fi))) (fun i s => kp_sp_92_70 n i s))) rfl hk1) rfl (kp_re [2036, 2039, 2111, 2112, 2113, 2114, 2115, 2137, 2138] s1)) rfl rfl rfl).2 ?_
          refine pg_92_119 (fun hc => absurd hc (nx_nle (a := i1) (b := n) rfl rfl (by omega) (by omega))) (fun _ => ?_)
          refine pg_92_122 rfl ?_
          refine pg_92_123 rfl ?_
          refine pg_92_124 (sk20 hs) (Nat.le_of_ble_eq_true rfl) (ct_95 (p := i1) hs (by omega) (fz_kp hf (kp_tr (kp_tr (kp_tr (kp_tr (kp_tr (kp_re [2023, 2025, 2036, 2039, 2111, 2112, 2113, 2114, 2115, 2124, 2133, 2134, 2135, 2137, 2138] fi) rfl (kp_it (L := [2133]) (p := fun (s : FI) => s) (N := 4) (F := sp_92_2 n) (s0 := fi) (kp_re [2133] fi) (fun i s => kp_sp_92_2 n i s))) rfl (kp_it (L := [2134]) (p := fun (s : FI) => s) (N := 144) (F := sp_92_48) (s0 := (lq_it 4 (sp_92_2 n) fi)) (kp_re [2134] (lq_it 4 (sp_92_2 n) fi)) (fun i s => kp_sp_92_48 i s))) rfl (kp_it (L := [2023, 2025, 2124, 2134, 2135]) (p := fun (s : FI × FL) => s.1) (N := n) (F := sp_92_70 n) (s0 := ((lq_it 144 sp_92_48 (lq_it 4 (sp_92_2 n) fi)), fl)) (kp_re [2023, 2025, 2124, 2134, 2135] (lq_it 144 sp_92_48 (lq_it 4 (sp_92_2 n) fi))) (fun i s => kp_sp_92_70 n i s))) rfl hk1) rfl (kp_re [2036, 2039, 2111, 2112, 2113, 2114, 2115, 2137, 2138] s1)) rfl rfl rfl) hv1.1 hv1.2) ?_
          refine pg_92_127 (y := (nI (i1 + 1))) (lv' := [some (xm_r (20, 0, 0)), some (xm_i (nI (i1 + 1))), u2]) rfl (nI_1 i1) rfl ?_
          refine pg_92_130 ?_
          exact K1 (sp_95 n s1 i1) (by unfold sp_92_114; all_goals rfl)
        · intro hz
          obtain ⟨hd1x7, wv114⟩ := hz
          show xm_G E (d + 4) true 92 114 [some (xm_r (20, 0, 0)), some (xm_i (nI n)), u2] [] (c, (lq_it n (sp_92_114 n) ((lq_it n (sp_92_70 n) ((lq_it 144 sp_92_48 (lq_it 4 (sp_92_2 n) fi)), fl)).1)), ((lq_it n (sp_92_70 n) ((lq_it 144 sp_92_48 (lq_it 4 (sp_92_2 n) fi)), fl)).2), r) R
          refine pg_92_114 rfl ?_
          refine pg_92_115 rfl ?_
          refine pg_92_116 (sk20 hs) ?_
          refine go_top (y := nI n) (fz_kp hf (kp_tr (kp_tr (kp_tr (kp_tr (kp_re [2023, 2025, 2036, 2039, 2111, 2112, 2113, 2114, 2115, 2124, 2133, 2134, 2135, 2137, 2138] fi) rfl (kp_it (L := [2133]) (p := fun (s : FI) => s) (N := 4) (F := sp_92_2 n) (s0 := fi) (kp_re [2133] fi) (fun i s => kp_sp_92_2 n i s))) rfl (kp_it (L := [2134]) (p := fun (s : FI) => s) (N := 144) (F := sp_92_48) (s0 := (lq_it 4 (sp_92_2 n) fi)) (kp_re [2134] (lq_it 4 (sp_92_2 n) fi)) (fun i s => kp_sp_92_48 i s))) rfl (kp_it (L := [2023, 2025, 2124, 2134, 2135]) (p := fun (s : FI × FL) => s.1) (N := n) (F := sp_92_70 n) (s0 := ((lq_it 144 sp_92_48 (lq_it 4 (sp_92_2 n) fi)), fl)) (kp_re [2023, 2025, 2124, 2134, 2135] (lq_it 144 sp_92_48 (lq_it 4 (sp_92_2 n) fi))) (fun i s => kp_sp_92_70 n i s))) rfl (kp_it (L := [2036, 2039, 2111, 2112, 2113, 2114, 2115, 2137, 2138]) (p := fun (s : FI) => s) (N := n) (F := sp_92_114 n) (s0 := ((lq_it n (sp_92_70 n) ((lq_it 144 sp_92_48 (lq_it 4 (sp_92_2 n) fi)), fl)).1)) (kp_re [2036, 2039, 2111, 2112, 2113, 2114, 2115, 2137, 2138] ((lq_it n (sp_92_70 n) ((lq_it 144 sp_92_48 (lq_it 4 (sp_92_2 n) fi)), fl)).1)) (fun i s => kp_sp_92_114 n i s))) rfl rfl rfl).2 ?_
          refine pg_92_119 (fun _ => ?_) (fun hc => absurd (nx_le (a := n) (b := n) rfl rfl (by omega) (by omega)) hc)
          exact go_eq (hR.symm.trans (by unfold sp_92; all_goals rfl)) (pg_92_133)
def BZ (fi : FI) : Prop := bz 14 fi ∧ bz 27 fi ∧ bz 29 fi ∧ bz 34 fi
theorem BZ_kp {L : List Nat} {fi g : FI} (h : BZ fi) (k : kp L fi g) (e1 : L.contains 2114 = false) (e2 : L.contains 2127 = false) (e3 : L.contains 2129 = false) (e4 : L.contains 2134 = false) : BZ g := ⟨bz_kp h.1 k e1, bz_kp h.2.1 k e2, bz_kp h.2.2.1 k e3, bz_kp h.2.2.2 k e4⟩
theorem BZ_it {S : Type} {p : S → FI} {N : Nat} {F : Nat → S → S} {s0 : S} (h : BZ (p s0)) (hF : ∀ i s, BZ (p s) → BZ (p (F i s))) : BZ (p (lq_it N F s0)) := by
  induction N with
  | zero => exact h
  | succ N ih => exact hF N _ ih
theorem BZ_71 (n : Nat) (fi : FI) (fl : FL) (h : BZ fi) : BZ (sp_71 n fi fl).1 := by
  unfold sp_71
  show BZ (lq_it n (sp_71_2 n) _).1
  refine BZ_it (p := fun (s : FI × FL) => s.1) h (fun i s hs => ?_)
  show BZ (sp_71_2 n i s).1
  unfold sp_71_2
  show BZ (lq_it n (sp_71_26 i s) _).1
  refine BZ_it (p := fun (s : FI × FL) => s.1) ?_ (fun i2 s2 h2 => ?_)
  · exact BZ_kp hs (kp_sp_72 s.1 i 0 (s.1 (21, 8, 0) i)) rfl rfl rfl rfl
  show BZ (sp_71_26 i s i2 s2).1
  unfold sp_71_26
  split
  · exact h2
  · have h3 : BZ (sp_75 s2.1 s2.2 i (nI i2) (sp_71_f i s)).1 := BZ_kp h2 (kp_sp_75 _ _ _ _ _) rfl rfl rfl rfl
    refine ⟨?_, ?_, ?_, ?_⟩
    · exact bz34_79 _ _ _ (by decide) (bz_ne (bz_ne h3.1 (by decide)) (by decide))
    · exact bz34_79 _ _ _ (by decide) (bz_ne (bz_up h3.2.1 (bI_01 _)) (by decide))
    · exact bz34_79 _ _ _ (by decide) (bz_ne (bz_ne h3.2.2.1 (by decide)) (by decide))
    · exact bz34_79 _ _ _ (by decide) (bz_ne (bz_ne h3.2.2.2 (by decide)) (by decide))
theorem BZ_81 (n : Nat) (fi : FI) (fl : FL) (p o : Nat) (h : BZ fi) : BZ (sp_81 n fi fl p o).1 := by
  unfold sp_81
  show BZ (lq_it n (sp_81_51 fi p o) _).1
  refine BZ_it (p := fun (s : FI × FL) => s.1) ?_ (fun i s hs => ?_)
  · show BZ (if _ then _ else _)
    split
    · exact BZ_kp h (kp_sp_72 _ _ _ _) rfl rfl rfl rfl
    · exact BZ_kp h (kp_sp_72 _ _ _ _) rfl rfl rfl rfl
  · show BZ (sp_81_51 _ _ _ i s).1
    unfold sp_81_51
    split
    · exact hs
    · have h3 : BZ (sp_75 s.1 s.2 p (nI i) (sp_81_f fi p o)).1 := BZ_kp hs (kp_sp_75 _ _ _ _ _) rfl rfl rfl rfl
      refine ⟨?_, ?_, ?_, ?_⟩
      · exact bz34_79 _ _ _ (by decide) (bz_ne (bz_ne h3.1 (by decide)) (by decide))
      · exact bz34_79 _ _ _ (by decide) (bz_ne (bz_ne h3.2.1 (by decide)) (by decide))
      · exact bz34_79 _ _ _ (by decide) (bz_ne (bz_up h3.2.2.1 (bI_01 _)) (by decide))
      · exact bz34_79 _ _ _ (by decide) (bz_ne (bz_ne h3.2.2.2 (by decide)) (by decide))
theorem BZ_80 (n : Nat) (fi : FI) (fl : FL) (h : BZ fi) : BZ (sp_80 n fi fl).1 := by
  unfold sp_80
  show BZ (lq_it n (sp_80_24 n) _).1
  refine BZ_it (p := fun (s : FI × FL) => s.1) ?_ (fun i s hs => ?_)
  · refine BZ_it (p := fun (s : FI) => s) h (fun i s hs => ?_)
    exact ⟨bz_ne hs.1 (by decide), bz_ne hs.2.1 (by decide), bz_up hs.2.2.1 (Or.inl rfl), bz_ne hs.2.2.2 (by decide)⟩
  · show BZ (sp_80_24 n i s).1
    unfold sp_80_24
    show BZ (lq_it n (sp_80_34 n i) _).1
    refine BZ_it (p := fun (s : FI × FL) => s.1) hs (fun i2 s2 h2 => ?_)
    show BZ (sp_80_34 n i i2 s2).1
    unfold sp_80_34
    (repeat' split) <;> first | exact h2 | exact BZ_81 _ _ _ _ _ h2
theorem BZ_90 (n : Nat) (fi : FI) (p : Nat) (h : BZ fi) : BZ (sp_90 n fi p) := by
  refine ⟨?_, bz_kp h.2.1 (kp_sp_90 _ _ _) rfl, bz_kp h.2.2.1 (kp_sp_90 _ _ _) rfl, bz_kp h.2.2.2 (kp_sp_90 _ _ _) rfl⟩
  unfold sp_90
  refine bz_it (p := fun (s : FI) => s) h.1 (fun i s hs => ?_)
  show bz 14 (sp_90_2 p i s)
  unfold sp_90_2
  exact bz_if (bz_ne (g := 15) hs (by decide)) (bz_ne (g := 15) (bz_up (bz_ne (g := 15) hs (by decide)) (bI_01 _)) (by decide))
theorem BZ_92 (n : Nat) (fi : FI) (fl : FL) (h : BZ fi) : BZ (sp_92 n fi fl).1 := by
  have k := bz_92a n fi fl h.2.2.2 h.1
  refine ⟨?_, bz_kp h.2.1 (kp_sp_92 n fi fl) rfl, bz_kp h.2.2.1 (kp_sp_92 n fi fl) rfl, ?_⟩
  · unfold sp_92
    show bz 14 (lq_it n (sp_92_114 n) _)
    exact bz_it (p := fun (s : FI) => s) k.2 (fun i s hs => bz_95 n s i hs)
  · unfold sp_92
    show bz 34 (lq_it n (sp_92_114 n) _)
    exact bz_it (p := fun (s : FI) => s) k.1 (fun i s hs => bz_kp hs (kp_sp_95 n s i) rfl)
-- 70: Model.run
def sp_70_47 (n : Nat) (i2 : Nat) (s2 : FI) : FI := if (s2 (21, 11, 0) i2) = 0 then ((sp_86 n (xm_up s2 (21, 19, 0) i2 (0 : Int32)) i2)) else ((xm_up s2 (21, 19, 0) i2 (0 : Int32)))
theorem kp_sp_70_47 (n : Nat) (i2 : Nat) (s2 : FI) : kp [2112, 2113, 2119, 2120] s2 (sp_70_47 n i2 s2) := by
  unfold sp_70_47
  rcases Classical.em ((s2 (21, 11, 0) i2) = 0) with hc | hc
  · (try rw [if_pos hc])
    exact (kp_tr (kp_up (kp_re [2112, 2113, 2119, 2120] s2) rfl) rfl (kp_sp_86 n (xm_up s2 (21, 19, 0) i2 (0 : Int32)) i2))
  · (try rw [if_neg hc])
    exact (kp_up (kp_re [2112, 2113, 2119, 2120] s2) rfl)
def sp_70_84 (n : Nat) (i2 : Nat) (s2 : FI) : FI := if (s2 (21, 11, 0) i2) = 0 then ((sp_90 n s2 i2)) else (s2)
theorem kp_sp_70_84 (n : Nat) (i2 : Nat) (s2 : FI) : kp [2114, 2115] s2 (sp_70_84 n i2 s2) := by
  unfold sp_70_84
  rcases Classical.em ((s2 (21, 11, 0) i2) = 0) with hc | hc
  · (try rw [if_pos hc])
    exact (kp_tr (kp_re [2114, 2115] s2) rfl (kp_sp_90 n s2 i2))
  · (try rw [if_neg hc])
    exact (kp_re [2114, 2115] s2)
def sp_70_21 (n : Nat) (i1 : Nat) (s1 : FI × FL) : FI × FL := ((xm_up ((sp_92 n ((sp_91 n (lq_it n (sp_70_84 n) (lq_it n (sp_70_47 n) (sp_82 n ((sp_80 n ((sp_71 n s1.1 s1.2).1) ((sp_71 n s1.1 s1.2).2)).1)))) ((sp_80 n ((sp_71 n s1.1 s1.2).1) ((sp_71 n s1.1 s1.2).2)).2)).1) ((sp_91 n (lq_it n (sp_70_84 n) (lq_it n (sp_70_47 n) (sp_82 n ((sp_80 n ((sp_71 n s1.1 s1.2).1) ((sp_71 n s1.1 s1.2).2)).1)))) ((sp_80 n ((sp_71 n s1.1 s1.2).1) ((sp_71 n s1.1 s1.2).2)).2)).2)).1) (20, 0, 0) 3 ((((sp_92 n ((sp_91 n (lq_it n (sp_70_84 n) (lq_it n (sp_70_47 n) (sp_82 n ((sp_80 n ((sp_71 n s1.1 s1.2).1) ((sp_71 n s1.1 s1.2).2)).1)))) ((sp_80 n ((sp_71 n s1.1 s1.2).1) ((sp_71 n s1.1 s1.2).2)).2)).1) ((sp_91 n (lq_it n (sp_70_84 n) (lq_it n (sp_70_47 n) (sp_82 n ((sp_80 n ((sp_71 n s1.1 s1.2).1) ((sp_71 n s1.1 s1.2).2)).1)))) ((sp_80 n ((sp_71 n s1.1 s1.2).1) ((sp_71 n s1.1 s1.2).2)).2)).2)).1) (20, 0, 0) 3) + (1 : Int32))), ((sp_92 n ((sp_91 n (lq_it n (sp_70_84 n) (lq_it n (sp_70_47 n) (sp_82 n ((sp_80 n ((sp_71 n s1.1 s1.2).1) ((sp_71 n s1.1 s1.2).2)).1)))) ((sp_80 n ((sp_71 n s1.1 s1.2).1) ((sp_71 n s1.1 s1.2).2)).2)).1) ((sp_91 n (lq_it n (sp_70_84 n) (lq_it n (sp_70_47 n) (sp_82 n ((sp_80 n ((sp_71 n s1.1 s1.2).1) ((sp_71 n s1.1 s1.2).2)).1)))) ((sp_80 n ((sp_71 n s1.1 s1.2).1) ((sp_71 n s1.1 s1.2).2)).2)).2)).2))
theorem kp_sp_70_21 (n : Nat) (i1 : Nat) (s1 : FI × FL) : kp [2003, 2021, 2022, 2023, 2025, 2036, 2039, 2111, 2112, 2113, 2114, 2115, 2116, 2117, 2118, 2119, 2120, 2124, 2127, 2128, 2129, 2130, 2133, 2134, 2135, 2137, 2138] s1.1 ((sp_70_21 n i1 s1).1) := by
  unfold sp_70_21
  exact (kp_up (kp_tr (kp_tr (kp_tr (kp_tr (kp_tr (kp_tr (kp_tr (kp_re [2003, 2021, 2022, 2023, 2025, 2036, 2039, 2111, 2112, 2113, 2114, 2115, 2116, 2117, 2118, 2119, 2120, 2124, 2127, 2128, 2129, 2130, 2133, 2134, 2135, 2137, 2138] s1.1) rfl (kp_sp_71 n s1.1 s1.2)) rfl (kp_sp_80 n ((sp_71 n s1.1 s1.2).1) ((sp_71 n s1.1 s1.2).2))) rfl (kp_sp_82 n ((sp_80 n ((sp_71 n s1.1 s1.2).1) ((sp_71 n s1.1 s1.2).2)).1))) rfl (kp_it (L := [2112, 2113, 2119, 2120]) (p := fun (s : FI) => s) (N := n) (F := sp_70_47 n) (s0 := (sp_82 n ((sp_80 n ((sp_71 n s1.1 s1.2).1) ((sp_71 n s1.1 s1.2).2)).1))) (kp_re [2112, 2113, 2119, 2120] (sp_82 n ((sp_80 n ((sp_71 n s1.1 s1.2).1) ((sp_71 n s1.1 s1.2).2)).1))) (fun i s => kp_sp_70_47 n i s))) rfl (kp_it (L := [2114, 2115]) (p := fun (s : FI) => s) (N := n) (F := sp_70_84 n) (s0 := (lq_it n (sp_70_47 n) (sp_82 n ((sp_80 n ((sp_71 n s1.1 s1.2).1) ((sp_71 n s1.1 s1.2).2)).1)))) (kp_re [2114, 2115] (lq_it n (sp_70_47 n) (sp_82 n ((sp_80 n ((sp_71 n s1.1 s1.2).1) ((sp_71 n s1.1 s1.2).2)).1)))) (fun i s => kp_sp_70_84 n i s))) rfl (kp_sp_91 n (lq_it n (sp_70_84 n) (lq_it n (sp_70_47 n) (sp_82 n ((sp_80 n ((sp_71 n s1.1 s1.2).1) ((sp_71 n s1.1 s1.2).2)).1)))) ((sp_80 n ((sp_71 n s1.1 s1.2).1) ((sp_71 n s1.1 s1.2).2)).2))) rfl (kp_sp_92 n ((sp_91 n (lq_it n (sp_70_84 n) (lq_it n (sp_70_47 n) (sp_82 n ((sp_80 n ((sp_71 n s1.1 s1.2).1) ((sp_71 n s1.1 s1.2).2)).1)))) ((sp_80 n ((sp_71 n s1.1 s1.2).1) ((sp_71 n s1.1 s1.2).2)).2)).1) ((sp_91 n (lq_it n (sp_70_84 n) (lq_it n (sp_70_47 n) (sp_82 n ((sp_80 n ((sp_71 n s1.1 s1.2).1) ((sp_71 n s1.1 s1.2).2)).1)))) ((sp_80 n ((sp_71 n s1.1 s1.2).1) ((sp_71 n s1.1 s1.2).2)).2)).2))) rfl)
def sp_70 (n : Nat) (fi : FI) (fl : FL) (m : Nat) : Int32 × FI × FL := ((((lq_it m (sp_70_21 n) ((xm_up fi (20, 0, 0) 0 (0 : Int32)), fl)).1) (20, 0, 0) 3), ((lq_it m (sp_70_21 n) ((xm_up fi (20, 0, 0) 0 (0 : Int32)), fl)).1), ((lq_it m (sp_70_21 n) ((xm_up fi (20, 0, 0) 0 (0 : Int32)), fl)).2))
theorem kp_sp_70 (n : Nat) (fi : FI) (fl : FL) (m : Nat) : kp [2000, 2003, 2021, 2022, 2023, 2025, 2036, 2039, 2111, 2112, 2113, 2114, 2115, 2116, 2117, 2118, 2119, 2120, 2124, 2127, 2128, 2129, 2130, 2133, 2134, 2135, 2137, 2138] fi ((sp_70 n fi fl m).2.1) := by
  unfold sp_70
  exact (kp_tr (kp_up (kp_re [2000, 2003, 2021, 2022, 2023, 2025, 2036, 2039, 2111, 2112, 2113, 2114, 2115, 2116, 2117, 2118, 2119, 2120, 2124, 2127, 2128, 2129, 2130, 2133, 2134, 2135, 2137, 2138] fi) rfl) rfl (kp_it (L := [2003, 2021, 2022, 2023, 2025, 2036, 2039, 2111, 2112, 2113, 2114, 2115, 2116, 2117, 2118, 2119, 2120, 2124, 2127, 2128, 2129, 2130, 2133, 2134, 2135, 2137, 2138]) (p := fun (s : FI × FL) => s.1) (N := m) (F := sp_70_21 n) (s0 := ((xm_up fi (20, 0, 0) 0 (0 : Int32)), fl)) (kp_re [2003, 2021, 2022, 2023, 2025, 2036, 2039, 2111, 2112, 2113, 2114, 2115, 2116, 2117, 2118, 2119, 2120, 2124, 2127, 2128, 2129, 2130, 2133, 2134, 2135, 2137, 2138] (xm_up fi (20, 0, 0) 0 (0 : Int32))) (fun i s => kp_sp_70_21 n i s)))
theorem BZ_70_47 (n i1 : Nat) (s : FI) (h : BZ s) : BZ (sp_70_47 n i1 s) := BZ_kp h (kp_sp_70_47 n i1 s) rfl rfl rfl rfl
theorem BZ_70_84 (n i1 : Nat) (s : FI) (h : BZ s) : BZ (sp_70_84 n i1 s) := by
  unfold sp_70_84
  split
  · exact BZ_90 n s i1 h
  · exact h
theorem BZ_70a (n : Nat) (fi : FI) (fl : FL) (h : BZ fi) : BZ (sp_82 n (sp_80 n (sp_71 n fi fl).1 (sp_71 n fi fl).2).1) := BZ_kp (BZ_80 n _ _ (BZ_71 n _ _ h)) (kp_sp_82 _ _) rfl rfl rfl rfl
theorem BZ_70b (n : Nat) (fi : FI) (h : BZ fi) : BZ (lq_it n (sp_70_84 n) (lq_it n (sp_70_47 n) fi)) := BZ_it (p := fun (s : FI) => s) (BZ_it (p := fun (s : FI) => s) h (fun i s hs => BZ_70_47 n i s hs)) (fun i s hs => BZ_70_84 n i s hs)
theorem BZ_91 (n : Nat) (fi : FI) (fl : FL) (h : BZ fi) : BZ (sp_91 n fi fl).1 := BZ_kp h (kp_sp_91 _ _ _) rfl rfl rfl rfl
theorem BZ_70_21 (n i1 : Nat) (s : FI × FL) (h : BZ s.1) : BZ (sp_70_21 n i1 s).1 := by
  unfold sp_70_21
  show BZ (xm_up _ (20, 0, 0) 3 _)
  exact BZ_kp (BZ_92 n _ _ (BZ_91 n _ _ (BZ_70b n _ (BZ_70a n _ _ h)))) (kp_up (kp_re [2003] _) rfl) rfl rfl rfl rfl
set_option maxRecDepth 4000 in
theorem ct_70 {n : Nat} {E : xm_E} {c : Nat × Nat} {fi : FI} {fl : FL} {r : xm_I → Nat → Option xm_I} {d : Nat} {m : Nat} (hs : sh n E c r) (h1 : 1 ≤ m) (h4 : m ≤ 4) (hf : fz n fi) (hB : BZ fi) : xm_C E (d + 6) true 70 [xm_r (20, 0, 0), xm_i (nI m)] (c, fi, fl, r) (.inl (some (xm_i ((sp_70 n fi fl m).1))), (c, (sp_70 n fi fl m).2.1, (sp_70 n fi fl m).2.2, r)) := by
  have hn := sh_n hs
  suffices key : ∀ R : xm_O, ((.inl (some (xm_i ((sp_70 n fi fl m).1))), (c, (sp_70 n fi fl m).2.1, (sp_70 n fi fl m).2.2, r)) : xm_O) = R → xm_G E (d + 5) true 70 0 [some (xm_r (20, 0, 0)), some (xm_i (nI m)), none, none] [] (c, fi, fl, r) R from go_inr (by decide) (Nat.le_of_ble_eq_true rfl) (key _ rfl)
  intro R hR
  refine pg_70_0 rfl ?_
  refine pg_70_1 rfl ?_
  refine pg_70_2 ?_
  refine pg_70_3 (fun hc => absurd hc (nx_nlt (a := m) (b := 1) rfl rfl (by omega) (by omega))) (fun _ => ?_)
  refine pg_70_6 rfl ?_
  refine pg_70_7 ?_
  refine pg_70_8 (fun _ => ?_) (fun hc => absurd (nx_le (a := 4) (b := m) rfl rfl (by omega) (by omega)) hc)
  refine pg_70_15 ?_
  refine pg_70_16 (sk20 hs) ?_
  refine pg_70_19 ?_
  refine pg_70_20 (lv' := [some (xm_r (20, 0, 0)), some (xm_i (nI m)), some (xm_i (0 : Int32)), none]) rfl ?_
  refine (lq_li (N := m) (f := sp_70_21 n) (s0 := ((xm_up fi (20, 0, 0) 0 (0 : Int32)), fl)) (P := fun i1 s1 => ∀ u3 : Option xm_V, xm_G E (d + 5) true 70 21 [some (xm_r (20, 0, 0)), some (xm_i (nI m)), some (xm_i (nI i1)), u3] [] (c, s1.1, s1.2, r) R) (I := fun i1 s1 => kp [2003, 2021, 2022, 2023, 2025, 2036, 2039, 2111, 2112, 2113, 2114, 2115, 2116, 2117, 2118, 2119, 2120, 2124, 2127, 2128, 2129, 2130, 2133, 2134, 2135, 2137, 2138] (xm_up fi (20, 0, 0) 0 (0 : Int32)) s1.1 ∧ (BZ s1.1 ∧ s1.1 (20, 0, 0) 0 = 0)) (⟨kp_re [2003, 2021, 2022, 2023, 2025, 2036, 2039, 2111, 2112, 2113, 2114, 2115, 2116, 2117, 2118, 2119, 2120, 2124, 2127, 2128, 2129, 2130, 2133, 2134, 2135, 2137, 2138] _, ⟨BZ_kp hB (kp_up (kp_re [2000] fi) rfl) rfl rfl rfl rfl, up_eq fi (20, 0, 0) 0 0⟩⟩) (fun i1 s1 hi1 hz => by obtain ⟨hk1, hv1⟩ := hz; exact ⟨kp_tr hk1 rfl (kp_sp_70_21 n i1 s1), ⟨BZ_70_21 n i1 s1 hv1.1, kp_at (kp_sp_70_21 n i1 s1) (20, 0, 0) 0 rfl hv1.2⟩⟩) ?_ ?_) _
  · intro i1 s1 hi1 hz K1 u3
    obtain ⟨hk1, hv1⟩ := hz
    show xm_G E (d + 5) true 70 21 [some (xm_r (20, 0, 0)), some (xm_i (nI m)), some (xm_i (nI i1)), u3] [] (c, s1.1, s1.2, r) R
    refine pg_70_21 rfl ?_
    refine pg_70_22 rfl ?_
    refine pg_70_23 (fun hc => absurd hc (nx_nle (a := i1) (b := m) rfl rfl (by omega) (by omega))) (fun _ => ?_)
    refine pg_70_26 rfl ?_
    refine pg_70_27 (sk20 hs) ?_
    refine pg_70_30 (fun hc => absurd hv1.2 hc) (fun _ => ?_)
    refine pg_70_33 rfl ?_
    refine pg_70_34 (sk20 hs) (Nat.le_of_ble_eq_true rfl) (ct_71  hs (fz_kp hf (kp_tr (kp_tr (kp_up (kp_re [2000, 2003, 2021, 2022, 2023, 2025, 2036, 2039, 2111, 2112, 2113, 2114, 2115, 2116, 2117, 2118, 2119, 2120, 2124, 2127, 2128, 2129, 2130, 2133, 2134, 2135, 2137, 2138] fi) rfl) rfl hk1) rfl (kp_re [2003, 2021, 2022, 2023, 2025, 2036, 2039, 2111, 2112, 2113, 2114, 2115, 2116, 2117, 2118, 2119, 2120, 2124, 2127, 2128, 2129, 2130, 2133, 2134, 2135, 2137, 2138] s1.1)) rfl rfl rfl)) ?_
    refine pg_70_37 rfl ?_
    refine pg_70_38 (sk20 hs) (Nat.le_of_ble_eq_true rfl) (ct_80  hs (fz_kp hf (kp_tr (kp_tr (kp_up (kp_re [2000, 2003, 2021, 2022, 2023, 2025, 2036, 2039, 2111, 2112, 2113, 2114, 2115, 2116, 2117, 2118, 2119, 2120, 2124, 2127, 2128, 2129, 2130, 2133, 2134, 2135, 2137, 2138] fi) rfl) rfl hk1) rfl (kp_tr (kp_re [2003, 2021, 2022, 2023, 2025, 2036, 2039, 2111, 2112, 2113, 2114, 2115, 2116, 2117, 2118, 2119, 2120, 2124, 2127, 2128, 2129, 2130, 2133, 2134, 2135, 2137, 2138] s1.1) rfl (kp_sp_71 n s1.1 s1.2))) rfl rfl rfl)) ?_
    refine pg_70_41 rfl ?_
    refine pg_70_42 (sk20 hs) (Nat.le_of_ble_eq_true rfl) (ct_82  hs (fz_kp hf (kp_tr (kp_tr (kp_up (kp_re [2000, 2003, 2021, 2022, 2023, 2025, 2036, 2039, 2111, 2112, 2113, 2114, 2115, 2116, 2117, 2118, 2119, 2120, 2124, 2127, 2128, 2129, 2130, 2133, 2134, 2135, 2137, 2138] fi) rfl) rfl hk1) rfl (kp_tr (kp_tr (kp_re [2003, 2021, 2022, 2023, 2025, 2036, 2039, 2111, 2112, 2113, 2114, 2115, 2116, 2117, 2118, 2119, 2120, 2124, 2127, 2128, 2129, 2130, 2133, 2134, 2135, 2137, 2138] s1.1) rfl (kp_sp_71 n s1.1 s1.2)) rfl (kp_sp_80 n ((sp_71 n s1.1 s1.2).1) ((sp_71 n s1.1 s1.2).2)))) rfl rfl rfl) (BZ_80 n _ _ (BZ_71 n _ _ hv1.1)).2.1 (BZ_80 n _ _ (BZ_71 n _ _ hv1.1)).2.2.1) ?_
    refine pg_70_45 ?_
    refine pg_70_46 (lv' := [some (xm_r (20, 0, 0)), some (xm_i (nI m)), some (xm_i (nI i1)), some (xm_i (0 : Int32))]) rfl ?_
    refine (lq_li (N := n) (f := sp_70_47 n) (s0 := (sp_82 n ((sp_80 n ((sp_71 n s1.1 s1.2).1) ((sp_71 n s1.1 s1.2).2)).1))) (P := fun i2 s2 => xm_G E (d + 5) true 70 47 [some (xm_r (20, 0, 0)), some (xm_i (nI m)), some (xm_i (nI i1)), some (xm_i (nI i2))] [] (c, s2, ((sp_80 n ((sp_71 n s1.1 s1.2).1) ((sp_71 n s1.1 s1.2).2)).2), r) R) (I := fun i2 s2 => kp [2112, 2113, 2119, 2120] (sp_82 n ((sp_80 n ((sp_71 n s1.1 s1.2).1) ((sp_71 n s1.1 s1.2).2)).1)) s2) (kp_re [2112, 2113, 2119, 2120] _) (fun i2 s2 hi2 hk2 => kp_tr hk2 rfl (kp_sp_70_47 n i2 s2)) ?_ ?_)
    · intro i2 s2 hi2 hk2 K2
      show xm_G E (d + 5) true 70 47 [some (xm_r (20, 0, 0)), some (xm_i (nI m)), some (xm_i (nI i1)), some (xm_i (nI i2))] [] (c, s2, ((sp_80 n ((sp_71 n s1.1 s1.2).1) ((sp_71 n s1.1 s1.2).2)).2), r) R
      refine pg_70_47 rfl ?_
      refine pg_70_48 rfl ?_
      refine pg_70_49 (sk20 hs) ?_
      refine go_top (y := nI n) (fz_kp hf (kp_tr (kp_tr (kp_up (kp_re [2000, 2003, 2021, 2022, 2023, 2025, 2036, 2039, 2111, 2112, 2113, 2114, 2115, 2116, 2117, 2118, 2119, 2120, 2124, 2127, 2128, 2129, 2130, 2133, 2134, 2135, 2137, 2138] fi) rfl) rfl hk1) rfl (kp_tr (kp_tr (kp_tr (kp_tr (kp_tr (kp_re [2003, 2021, 2022, 2023, 2025, 2036, 2039, 2111, 2112, 2113, 2114, 2115, 2116, 2117, 2118, 2119, 2120, 2124, 2127, 2128, 2129, 2130, 2133, 2134, 2135, 2137, 2138] s1.1) rfl (kp_sp_71 n s1.1 s1.2)) rfl (kp_sp_80 n ((sp_71 n s1.1 s1.2).1) ((sp_71 n s1.1 s1.2).2))) rfl (kp_sp_82 n ((sp_80 n ((sp_71 n s1.1 s1.2).1) ((sp_71 n s1.1 s1.2).2)).1))) rfl hk2) rfl (kp_re [2112, 2113, 2119, 2120] s2))) rfl rfl rfl).2 ?_
      refine pg_70_52 (fun hc => absurd hc (nx_nle (a := i2) (b := n) rfl rfl (by omega) (by omega))) (fun _ => ?_)
      refine pg_70_55 rfl ?_
      refine pg_70_56 (sk20 hs) (sr20_19 hs) ?_
      refine pg_70_59 rfl ?_
      refine pg_70_60 ?_
      refine pg_70_61 (sk21_19 hs) (i := i2) rfl (by omega) (by omega) (Or.inl rfl) ?_
      refine pg_70_62 rfl ?_
      refine pg_70_63 (sk20 hs) (sr20_11 hs) ?_
      refine pg_70_66 rfl ?_
      refine pg_70_67 (sk21_11 hs) (i := i2) rfl (by omega) (by omega) ?_
      refine go_top (y := (s2 (21, 11, 0) i2)) (by simp [xm_up]) ?_
      refine pg_70_68 (fun hc1 => ?_) (fun hc2 => ?_)
      · refine pg_70_76 (y := (nI (i2 + 1))) (lv' := [some (xm_r (20, 0, 0)), some (xm_i (nI m)), some (xm_i (nI i1)), some (xm_i (nI (i2 + 1)))]) rfl (nI_1 i2) rfl ?_
        refine pg_70_79 ?_
        exact K2 (xm_up s2 (21, 19, 0) i2 (0 : Int32)) (by unfold sp_70_47; try rw [if_neg hc1]; all_goals rfl)
      · refine pg_70_71 rfl ?_
        refine pg_70_72 rfl ?_
        refine pg_70_73 (sk20 hs) (Nat.le_of_ble_eq_true rfl) (ct_86 (p := i2) hs (by omega) (fz_kp hf (kp_tr (kp_tr (kp_up (kp_re [2000, 2003, 2021, 2022, 2023, 2025, 2036, 2039, 2111, 2112, 2113, 2114, 2115, 2116, 2117, 2118, 2119, 2120, 2124, 2127, 2128, 2129, 2130, 2133, 2134, 2135, 2137, 2138] fi) rfl) rfl hk1) rfl (kp_tr (kp_tr (kp_tr (kp_tr (kp_tr (kp_re [2003, 2021, 2022, 2023, 2025, 2036, 2039, 2111, 2112, 2113, 2114, 2115, 2116, 2117, 2118, 2119, 2120, 2124, 2127, 2128, 2129, 2130, 2133, 2134, 2135, 2137, 2138] s1.1) rfl (kp_sp_71 n s1.1 s1.2)) rfl (kp_sp_80 n ((sp_71 n s1.1 s1.2).1) ((sp_71 n s1.1 s1.2).2))) rfl (kp_sp_82 n ((sp_80 n ((sp_71 n s1.1 s1.2).1) ((sp_71 n s1.1 s1.2).2)).1))) rfl hk2) rfl (kp_up (kp_re [2112, 2113, 2119, 2120] s2) rfl))) rfl rfl rfl)) ?_
        refine pg_70_76 (y := (nI (i2 + 1))) (lv' := [some (xm_r (20, 0, 0)), some (xm_i (nI m)), some (xm_i (nI i1)), some (xm_i (nI (i2 + 1)))]) rfl (nI_1 i2) rfl ?_
        refine pg_70_79 ?_
        exact K2 (sp_86 n (xm_up s2 (21, 19, 0) i2 (0 : Int32)) i2) (by unfold sp_70_47; try rw [if_pos hc2]; all_goals rfl)
    · intro hd2x3
      show xm_G E (d + 5) true 70 47 [some (xm_r (20, 0, 0)), some (xm_i (nI m)), some (xm_i (nI i1)), some (xm_i (nI n))] [] (c, (lq_it n (sp_70_47 n) (sp_82 n ((sp_80 n ((sp_71 n s1.1 s1.2).1) ((sp_71 n s1.1 s1.2).2)).1))), ((sp_80 n ((sp_71 n s1.1 s1.2).1) ((sp_71 n s1.1 s1.2).2)).2), r) R
      refine pg_70_47 rfl ?_
      refine pg_70_48 rfl ?_
      refine pg_70_49 (sk20 hs) ?_
      refine go_top (y := nI n) (fz_kp hf (kp_tr (kp_tr (kp_up (kp_re [2000, 2003, 2021, 2022, 2023, 2025, 2036, 2039, 2111, 2112, 2113, 2114, 2115, 2116, 2117, 2118, 2119, 2120, 2124, 2127, 2128, 2129, 2130, 2133, 2134, 2135, 2137, 2138] fi) rfl) rfl hk1) rfl (kp_tr (kp_tr (kp_tr (kp_tr (kp_re [2003, 2021, 2022, 2023, 2025, 2036, 2039, 2111, 2112, 2113, 2114, 2115, 2116, 2117, 2118, 2119, 2120, 2124, 2127, 2128, 2129, 2130, 2133, 2134, 2135, 2137, 2138] s1.1) rfl (kp_sp_71 n s1.1 s1.2)) rfl (kp_sp_80 n ((sp_71 n s1.1 s1.2).1) ((sp_71 n s1.1 s1.2).2))) rfl (kp_sp_82 n ((sp_80 n ((sp_71 n s1.1 s1.2).1) ((sp_71 n s1.1 s1.2).2)).1))) rfl (kp_it (L := [2112, 2113, 2119, 2120]) (p := fun (s : FI) => s) (N := n) (F := sp_70_47 n) (s0 := (sp_82 n ((sp_80 n ((sp_71 n s1.1 s1.2).1) ((sp_71 n s1.1 s1.2).2)).1))) (kp_re [2112, 2113, 2119, 2120] (sp_82 n ((sp_80 n ((sp_71 n s1.1 s1.2).1) ((sp_71 n s1.1 s1.2).2)).1))) (fun i s => kp_sp_70_47 n i s)))) rfl rfl rfl).2 ?_
      refine pg_70_52 (fun _ => ?_) (fun hc => absurd (nx_le (a := n) (b := n) rfl rfl (by omega) (by omega)) hc)
      refine pg_70_82 ?_
      refine pg_70_83 (lv' := [some (xm_r (20, 0, 0)), some (xm_i (nI m)), some (xm_i (nI i1)), some (xm_i (0 : Int32))]) rfl ?_
      refine (lq_li (N := n) (f := sp_70_84 n) (s0 := (lq_it n (sp_70_47 n) (sp_82 n ((sp_80 n ((sp_71 n s1.1 s1.2).1) ((sp_71 n s1.1 s1.2).2)).1)))) (P := fun i2 s2 => xm_G E (d + 5) true 70 84 [some (xm_r (20, 0, 0)), some (xm_i (nI m)), some (xm_i (nI i1)), some (xm_i (nI i2))] [] (c, s2, ((sp_80 n ((sp_71 n s1.1 s1.2).1) ((sp_71 n s1.1 s1.2).2)).2), r) R) (I := fun i2 s2 => kp [2114, 2115] (lq_it n (sp_70_47 n) (sp_82 n ((sp_80 n ((sp_71 n s1.1 s1.2).1) ((sp_71 n s1.1 s1.2).2)).1))) s2) (kp_re [2114, 2115] _) (fun i2 s2 hi2 hk2 => kp_tr hk2 rfl (kp_sp_70_84 n i2 s2)) ?_ ?_)
      · intro i2 s2 hi2 hk2 K2
        show xm_G E (d + 5) true 70 84 [some (xm_r (20, 0, 0)), some (xm_i (nI m)), some (xm_i (nI i1)), some (xm_i (nI i2))] [] (c, s2, ((sp_80 n ((sp_71 n s1.1 s1.2).1) ((sp_71 n s1.1 s1.2).2)).2), r) R
        refine pg_70_84 rfl ?_
        refine pg_70_85 rfl ?_
        refine pg_70_86 (sk20 hs) ?_
        refine go_top (y := nI n) (fz_kp hf (kp_tr (kp_tr (kp_up (kp_re [2000, 2003, 2021, 2022, 2023, 2025, 2036, 2039, 2111, 2112, 2113, 2114, 2115, 2116, 2117, 2118, 2119, 2120, 2124, 2127, 2128, 2129, 2130, 2133, 2134, 2135, 2137, 2138] fi) rfl) rfl hk1) rfl (kp_tr (kp_tr (kp_tr (kp_tr (kp_tr (kp_tr (kp_re [2003, 2021, 2022, 2023, 2025, 2036, 2039, 2111, 2112, 2113, 2114, 2115, 2116, 2117, 2118, 2119, 2120, 2124, 2127, 2128, 2129, 2130, 2133, 2134, 2135, 2137, 2138] s1.1) rfl (kp_sp_71 n s1.1 s1.2)) rfl (kp_sp_80 n ((sp_71 n s1.1 s1.2).1) ((sp_71 n s1.1 s1.2).2))) rfl (kp_sp_82 n ((sp_80 n ((sp_71 n s1.1 s1.2).1) ((sp_71 n s1.1 s1.2).2)).1))) rfl (kp_it (L := [2112, 2113, 2119, 2120]) (p := fun (s : FI) => s) (N := n) (F := sp_70_47 n) (s0 := (sp_82 n ((sp_80 n ((sp_71 n s1.1 s1.2).1) ((sp_71 n s1.1 s1.2).2)).1))) (kp_re [2112, 2113, 2119, 2120] (sp_82 n ((sp_80 n ((sp_71 n s1.1 s1.2).1) ((sp_71 n s1.1 s1.2).2)).1))) (fun i s => kp_sp_70_47 n i s))) rfl hk2) rfl (kp_re [2114, 2115] s2))) rfl rfl rfl).2 ?_
        refine pg_70_89 (fun hc => absurd hc (nx_nle (a := i2) (b := n) rfl rfl (by omega) (by omega))) (fun _ => ?_)
        refine pg_70_92 rfl ?_
        refine pg_70_93 (sk20 hs) (sr20_11 hs) ?_
        refine pg_70_96 rfl ?_
        refine pg_70_97 (sk21_11 hs) (i := i2) rfl (by omega) (by omega) ?_
        refine pg_70_98 (fun hc4 => ?_) (fun hc5 => ?_)
        · refine pg_70_106 (y := (nI (i2 + 1))) (lv' := [some (xm_r (20, 0, 0)), some (xm_i (nI m)), some (xm_i (nI i1)), some (xm_i (nI (i2 + 1)))]) rfl (nI_1 i2) rfl ?_
          refine pg_70_109 ?_
          exact K2 s2 (by unfold sp_70_84; try rw [if_neg hc4]; all_goals rfl)
        · refine pg_70_101 rfl ?_
          refine pg_70_102 rfl ?_
          refine pg_70_103 (sk20 hs) (Nat.le_of_ble_eq_true rfl) (ct_90 (p := i2) hs (by omega) (fz_kp hf (kp_tr (kp_tr (kp_up (kp_re [2000, 2003, 2021, 2022, 2023, 2025, 2036, 2039, 2111, 2112, 2113, 2114, 2115, 2116, 2117, 2118, 2119, 2120, 2124, 2127, 2128, 2129, 2130, 2133, 2134, 2135, 2137, 2138] fi) rfl) rfl hk1) rfl (kp_tr (kp_tr (kp_tr (kp_tr (kp_tr (kp_tr (kp_re [2003, 2021, 2022, 2023, 2025, 2036, 2039, 2111, 2112, 2113, 2114, 2115, 2116, 2117, 2118, 2119, 2120, 2124, 2127, 2128, 2129, 2130, 2133, 2134, 2135, 2137, 2138] s1.1) rfl (kp_sp_71 n s1.1 s1.2)) rfl (kp_sp_80 n ((sp_71 n s1.1 s1.2).1) ((sp_71 n s1.1 s1.2).2))) rfl (kp_sp_82 n ((sp_80 n ((sp_71 n s1.1 s1.2).1) ((sp_71 n s1.1 s1.2).2)).1))) rfl (kp_it (L := [2112, 2113, 2119, 2120]) (p := fun (s : FI) => s) (N := n) (F := sp_70_47 n) (s0 := (sp_82 n ((sp_80 n ((sp_71 n s1.1 s1.2).1) ((sp_71 n s1.1 s1.2).2)).1))) (kp_re [2112, 2113, 2119, 2120] (sp_82 n ((sp_80 n ((sp_71 n s1.1 s1.2).1) ((sp_71 n s1.1 s1.2).2)).1))) (fun i s => kp_sp_70_47 n i s))) rfl hk2) rfl (kp_re [2114, 2115] s2))) rfl rfl rfl)) ?_
          refine pg_70_106 (y := (nI (i2 + 1))) (lv' := [some (xm_r (20, 0, 0)), some (xm_i (nI m)), some (xm_i (nI i1)), some (xm_i (nI (i2 + 1)))]) rfl (nI_1 i2) rfl ?_
          refine pg_70_109 ?_
          exact K2 (sp_90 n s2 i2) (by unfold sp_70_84; try rw [if_pos hc5]; all_goals rfl)
      · intro hd2x6
        show xm_G E (d + 5) true 70 84 [some (xm_r (20, 0, 0)), some (xm_i (nI m)), some (xm_i (nI i1)), some (xm_i (nI n))] [] (c, (lq_it n (sp_70_84 n) (lq_it n (sp_70_47 n) (sp_82 n ((sp_80 n ((sp_71 n s1.1 s1.2).1) ((sp_71 n s1.1 s1.2).2)).1)))), ((sp_80 n ((sp_71 n s1.1 s1.2).1) ((sp_71 n s1.1 s1.2).2)).2), r) R
        refine pg_70_84 rfl ?_
        refine pg_70_85 rfl ?_
        refine pg_70_86 (sk20 hs) ?_
        refine go_top (y := nI n) (fz_kp hf (kp_tr (kp_tr (kp_up (kp_re [2000, 2003, 2021, 2022, 2023, 2025, 2036, 2039, 2111, 2112, 2113, 2114, 2115, 2116, 2117, 2118, 2119, 2120, 2124, 2127, 2128, 2129, 2130, 2133, 2134, 2135, 2137, 2138] fi) rfl) rfl hk1) rfl (kp_tr (kp_tr (kp_tr (kp_tr (kp_tr (kp_re [2003, 2021, 2022, 2023, 2025, 2036, 2039, 2111, 2112, 2113, 2114, 2115, 2116, 2117, 2118, 2119, 2120, 2124, 2127, 2128, 2129, 2130, 2133, 2134, 2135, 2137, 2138] s1.1) rfl (kp_sp_71 n s1.1 s1.2)) rfl (kp_sp_80 n ((sp_71 n s1.1 s1.2).1) ((sp_71 n s1.1 s1.2).2))) rfl (kp_sp_82 n ((sp_80 n ((sp_71 n s1.1 s1.2).1) ((sp_71 n s1.1 s1.2).2)).1))) rfl (kp_it (L := [2112, 2113, 2119, 2120]) (p := fun (s : FI) => s) (N := n) (F := sp_70_47 n) (s0 := (sp_82 n ((sp_80 n ((sp_71 n s1.1 s1.2).1) ((sp_71 n s1.1 s1.2).2)).1))) (kp_re [2112, 2113, 2119, 2120] (sp_82 n ((sp_80 n ((sp_71 n s1.1 s1.2).1) ((sp_71 n s1.1 s1.2).2)).1))) (fun i s => kp_sp_70_47 n i s))) rfl (kp_it (L := [2114, 2115]) (p := fun (s : FI) => s) (N := n) (F := sp_70_84 n) (s0 := (lq_it n (sp_70_47 n) (sp_82 n ((sp_80 n ((sp_71 n s1.1 s1.2).1) ((sp_71 n s1.1 s1.2).2)).1)))) (kp_re [2114, 2115] (lq_it n (sp_70_47 n) (sp_82 n ((sp_80 n ((sp_71 n s1.1 s1.2).1) ((sp_71 n s1.1 s1.2).2)).1)))) (fun i s => kp_sp_70_84 n i s)))) rfl rfl rfl).2 ?_
        refine pg_70_89 (fun _ => ?_) (fun hc => absurd (nx_le (a := n) (b := n) rfl rfl (by omega) (by omega)) hc)
        refine pg_70_112 rfl ?_
        refine pg_70_113 (sk20 hs) (Nat.le_of_ble_eq_true rfl) (ct_91  hs (fz_kp hf (kp_tr (kp_tr (kp_up (kp_re [2000, 2003, 2021, 2022, 2023, 2025, 2036, 2039, 2111, 2112, 2113, 2114, 2115, 2116, 2117, 2118, 2119, 2120, 2124, 2127, 2128, 2129, 2130, 2133, 2134, 2135, 2137, 2138] fi) rfl) rfl hk1) rfl (kp_tr (kp_tr (kp_tr (kp_tr (kp_tr (kp_re [2003, 2021, 2022, 2023, 2025, 2036, 2039, 2111, 2112, 2113, 2114, 2115, 2116, 2117, 2118, 2119, 2120, 2124, 2127, 2128, 2129, 2130, 2133, 2134, 2135, 2137, 2138] s1.1) rfl (kp_sp_71 n s1.1 s1.2)) rfl (kp_sp_80 n ((sp_71 n s1.1 s1.2).1) ((sp_71 n s1.1 s1.2).2))) rfl (kp_sp_82 n ((sp_80 n ((sp_71 n s1.1 s1.2).1) ((sp_71 n s1.1 s1.2).2)).1))) rfl (kp_it (L := [2112, 2113, 2119, 2120]) (p := fun (s : FI) => s) (N := n) (F := sp_70_47 n) (s0 := (sp_82 n ((sp_80 n ((sp_71 n s1.1 s1.2).1) ((sp_71 n s1.1 s1.2).2)).1))) (kp_re [2112, 2113, 2119, 2120] (sp_82 n ((sp_80 n ((sp_71 n s1.1 s1.2).1) ((sp_71 n s1.1 s1.2).2)).1))) (fun i s => kp_sp_70_47 n i s))) rfl (kp_it (L := [2114, 2115]) (p := fun (s : FI) => s) (N := n) (F := sp_70_84 n) (s0 := (lq_it n (sp_70_47 n) (sp_82 n ((sp_80 n ((sp_71 n s1.1 s1.2).1) ((sp_71 n s1.1 s1.2).2)).1)))) (kp_re [2114, 2115] (lq_it n (sp_70_47 n) (sp_82 n ((sp_80 n ((sp_71 n s1.1 s1.2).1) ((sp_71 n s1.1 s1.2).2)).1)))) (fun i s => kp_sp_70_84 n i s)))) rfl rfl rfl)) ?_
        refine pg_70_116 rfl ?_
        refine pg_70_117 (sk20 hs) (Nat.le_of_ble_eq_true rfl) (ct_92  hs (fz_kp hf (kp_tr (kp_tr (kp_up (kp_re [2000, 2003, 2021, 2022, 2023, 2025, 2036, 2039, 2111, 2112, 2113, 2114, 2115, 2116, 2117, 2118, 2119, 2120, 2124, 2127, 2128, 2129, 2130, 2133, 2134, 2135, 2137, 2138] fi) rfl) rfl hk1) rfl (kp_tr (kp_tr (kp_tr (kp_tr (kp_tr (kp_tr (kp_re [2003, 2021, 2022, 2023, 2025, 2036, 2039, 2111, 2112, 2113, 2114, 2115, 2116, 2117, 2118, 2119, 2120, 2124, 2127, 2128, 2129, 2130, 2133, 2134, 2135, 2137, 2138] s1.1) rfl (kp_sp_71 n s1.1 s1.2)) rfl (kp_sp_80 n ((sp_71 n s1.1 s1.2).1) ((sp_71 n s1.1 s1.2).2))) rfl (kp_sp_82 n ((sp_80 n ((sp_71 n s1.1 s1.2).1) ((sp_71 n s1.1 s1.2).2)).1))) rfl (kp_it (L := [2112, 2113, 2119, 2120]) (p := fun (s : FI) => s) (N := n) (F := sp_70_47 n) (s0 := (sp_82 n ((sp_80 n ((sp_71 n s1.1 s1.2).1) ((sp_71 n s1.1 s1.2).2)).1))) (kp_re [2112, 2113, 2119, 2120] (sp_82 n ((sp_80 n ((sp_71 n s1.1 s1.2).1) ((sp_71 n s1.1 s1.2).2)).1))) (fun i s => kp_sp_70_47 n i s))) rfl (kp_it (L := [2114, 2115]) (p := fun (s : FI) => s) (N := n) (F := sp_70_84 n) (s0 := (lq_it n (sp_70_47 n) (sp_82 n ((sp_80 n ((sp_71 n s1.1 s1.2).1) ((sp_71 n s1.1 s1.2).2)).1)))) (kp_re [2114, 2115] (lq_it n (sp_70_47 n) (sp_82 n ((sp_80 n ((sp_71 n s1.1 s1.2).1) ((sp_71 n s1.1 s1.2).2)).1)))) (fun i s => kp_sp_70_84 n i s))) rfl (kp_sp_91 n (lq_it n (sp_70_84 n) (lq_it n (sp_70_47 n) (sp_82 n ((sp_80 n ((sp_71 n s1.1 s1.2).1) ((sp_71 n s1.1 s1.2).2)).1)))) ((sp_80 n ((sp_71 n s1.1 s1.2).1) ((sp_71 n s1.1 s1.2).2)).2)))) rfl rfl rfl) (BZ_91 n _ _ (BZ_70b n _ (BZ_70a n _ _ hv1.1))).2.2.2 (BZ_91 n _ _ (BZ_70b n _ (BZ_70a n _ _ hv1.1))).1) ?_
        refine pg_70_120 rfl ?_
        refine pg_70_121 rfl ?_
        refine pg_70_122 (sk20 hs) ?_
        refine pg_70_125 ?_
        refine pg_70_126 ?_
        refine pg_70_127 (sk20 hs) ?_
        refine pg_70_130 (y := (nI (i1 + 1))) (lv' := [some (xm_r (20, 0, 0)), some (xm_i (nI m)), some (xm_i (nI (i1 + 1))), some (xm_i (nI n))]) rfl (nI_1 i1) rfl ?_
        refine pg_70_133 ?_
        exact K1 ((xm_up ((sp_92 n ((sp_91 n (lq_it n (sp_70_84 n) (lq_it n (sp_70_47 n) (sp_82 n ((sp_80 n ((sp_71 n s1.1 s1.2).1) ((sp_71 n s1.1 s1.2).2)).1)))) ((sp_80 n ((sp_71 n s1.1 s1.2).1) ((sp_71 n s1.1 s1.2).2)).2)).1) ((sp_91 n (lq_it n (sp_70_84 n) (lq_it n (sp_70_47 n) (sp_82 n ((sp_80 n ((sp_71 n s1.1 s1.2).1) ((sp_71 n s1.1 s1.2).2)).1)))) ((sp_80 n ((sp_71 n s1.1 s1.2).1) ((sp_71 n s1.1 s1.2).2)).2)).2)).1) (20, 0, 0) 3 ((((sp_92 n ((sp_91 n (lq_it n (sp_70_84 n) (lq_it n (sp_70_47 n) (sp_82 n ((sp_80 n ((sp_71 n s1.1 s1.2).1) ((sp_71 n s1.1 s1.2).2)).1)))) ((sp_80 n ((sp_71 n s1.1 s1.2).1) ((sp_71 n s1.1 s1.2).2)).2)).1) ((sp_91 n (lq_it n (sp_70_84 n) (lq_it n (sp_70_47 n) (sp_82 n ((sp_80 n ((sp_71 n s1.1 s1.2).1) ((sp_71 n s1.1 s1.2).2)).1)))) ((sp_80 n ((sp_71 n s1.1 s1.2).1) ((sp_71 n s1.1 s1.2).2)).2)).2)).1) (20, 0, 0) 3) + (1 : Int32))), ((sp_92 n ((sp_91 n (lq_it n (sp_70_84 n) (lq_it n (sp_70_47 n) (sp_82 n ((sp_80 n ((sp_71 n s1.1 s1.2).1) ((sp_71 n s1.1 s1.2).2)).1)))) ((sp_80 n ((sp_71 n s1.1 s1.2).1) ((sp_71 n s1.1 s1.2).2)).2)).1) ((sp_91 n (lq_it n (sp_70_84 n) (lq_it n (sp_70_47 n) (sp_82 n ((sp_80 n ((sp_71 n s1.1 s1.2).1) ((sp_71 n s1.1 s1.2).2)).1)))) ((sp_80 n ((sp_71 n s1.1 s1.2).1) ((sp_71 n s1.1 s1.2).2)).2)).2)).2)) (by unfold sp_70_21; all_goals rfl) _
  · intro hz u3
    obtain ⟨hd1x7, wv21⟩ := hz
    show xm_G E (d + 5) true 70 21 [some (xm_r (20, 0, 0)), some (xm_i (nI m)), some (xm_i (nI m)), u3] [] (c, ((lq_it m (sp_70_21 n) ((xm_up fi (20, 0, 0) 0 (0 : Int32)), fl)).1), ((lq_it m (sp_70_21 n) ((xm_up fi (20, 0, 0) 0 (0 : Int32)), fl)).2), r) R
    refine pg_70_21 rfl ?_
    refine pg_70_22 rfl ?_
    refine pg_70_23 (fun _ => ?_) (fun hc => absurd (nx_le (a := m) (b := m) rfl rfl (by omega) (by omega)) hc)
    refine pg_70_136 rfl ?_
    refine pg_70_137 (sk20 hs) ?_
    refine pg_70_140 (fun hc => absurd wv21.2 hc) (fun _ => ?_)
    refine pg_70_143 rfl ?_
    refine pg_70_144 (sk20 hs) ?_
    refine pg_70_147 ?_
    exact go_eq (hR.symm.trans (by unfold sp_70; all_goals rfl)) (pg_70_151)
