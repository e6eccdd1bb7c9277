/-! Functions and contracts: the reference, agreeing and control. Written by wip/whole/prog. -/
def bz (f : Nat) (fi : FI) : Prop := ∀ k, fi (21, f, 0) k = 0 ∨ fi (21, f, 0) k = 1
theorem bz_kp {f : Nat} {L : List Nat} {fi g : FI} (h : bz f fi) (k : kp L fi g) (e : L.contains (2100 + f) = false) : bz f g := by
  intro j
  rw [k (21, f, 0) j e]
  exact h j
theorem bz_up {f k : Nat} {fi : FI} {v : Int32} (h : bz f fi) (hv : v = 0 ∨ v = 1) : bz f (xm_up fi (21, f, 0) k v) := by
  intro j
  unfold xm_up
  split
  · exact hv
  · exact h j
theorem bz_ne {f g k : Nat} {fi : FI} {v : Int32} (h : bz f fi) (hg : ¬ f = g) : bz f (xm_up fi (21, g, 0) k v) := by
  intro j
  rw [up_ne _ _ (by simp [hg])]
  exact h j
theorem bz_it {f : Nat} {S : Type} {p : S → FI} {N : Nat} {F : Nat → S → S} {s0 : S} (h : bz f (p s0)) (hF : ∀ i s, bz f (p s) → bz f (p (F i s))) : bz f (p (lq_it N F s0)) := by
  induction N with
  | zero => exact h
  | succ N ih => exact hF N _ ih
def vt (m : Nat) (fi : FI) : Prop := ∃ w, w ≤ m ∧ fi (20, 0, 0) 36 = nI w
theorem vt_of {m w : Nat} {fi : FI} (e : fi (20, 0, 0) 36 = nI w) (h : w ≤ m) : vt m fi := ⟨w, h, e⟩
theorem vt_mono {m m' : Nat} {fi : FI} (h : vt m fi) (hm : m ≤ m') : vt m' fi := by
  obtain ⟨w, h1, h2⟩ := h
  exact ⟨w, by omega, h2⟩
theorem vt_get {m : Nat} {fi : FI} (h : vt m fi) (hm : m < 1000) : fi (20, 0, 0) 36 = nI (fi (20, 0, 0) 36).toNatClampNeg ∧ (fi (20, 0, 0) 36).toNatClampNeg ≤ m := by
  obtain ⟨w, h1, h2⟩ := h
  rw [h2, nI_clamp (by omega)]
  exact ⟨rfl, h1⟩
theorem vt_kp {m : Nat} {L : List Nat} {fi g : FI} (h : vt m fi) (k : kp L fi g) (e : L.contains 2036 = false) : vt m g := by
  obtain ⟨w, h1, h2⟩ := h
  exact ⟨w, h1, (k (20, 0, 0) 36 e).trans h2⟩
def xb (p i : Nat) : Nat := if p < i then 1 else 0
theorem xb_c (p i : Nat) : (p < i ∧ xb p i = 1) ∨ (¬ p < i ∧ xb p i = 0) := by
  unfold xb
  rcases Classical.em (p < i) with h | h
  · exact Or.inl ⟨h, if_pos h⟩
  · exact Or.inr ⟨h, if_neg h⟩
theorem vt_84 (fi : FI) (b x : Int32) (w : Nat) : sp_84 fi b x w (20, 0, 0) 36 = nI (w + 1) := by
  unfold sp_84
  exact up_eq _ _ _ _
-- 83: Model.agree
def sp_83_33 (p : Nat) (o : Nat) (i1 : Nat) (s1 : FI) : FI := if (nI i1) = (nI o) then (s1) else (if (nI i1) = (nI p) then (s1) else (if (s1 (21, 14, 0) ((6 * p) + i1)) = 0 then (s1) else ((sp_84 s1 (s1 (21, 29, 0) (((36 * p) + (6 * i1)) + o)) (s1 (21, 30, 0) (((36 * p) + (6 * i1)) + o)) ((s1 (20, 0, 0) 36).toNatClampNeg)))))
theorem kp_sp_83_33 (p : Nat) (o : Nat) (i1 : Nat) (s1 : FI) : kp [2036, 2137, 2138] s1 (sp_83_33 p o i1 s1) := by
  unfold sp_83_33
  rcases Classical.em ((nI i1) = (nI o)) with hc | hc
  · (try rw [if_pos hc])
    exact (kp_re [2036, 2137, 2138] s1)
  · (try rw [if_neg hc])
    rcases Classical.em ((nI i1) = (nI p)) with hc | hc
    · (try rw [if_pos hc])
      exact (kp_re [2036, 2137, 2138] s1)
    · (try rw [if_neg hc])
      rcases Classical.em ((s1 (21, 14, 0) ((6 * p) + i1)) = 0) with hc | hc
      · (try rw [if_pos hc])
        exact (kp_re [2036, 2137, 2138] s1)
      · (try rw [if_neg hc])
        exact (kp_tr (kp_re [2036, 2137, 2138] s1) rfl (kp_sp_84 s1 (s1 (21, 29, 0) (((36 * p) + (6 * i1)) + o)) (s1 (21, 30, 0) (((36 * p) + (6 * i1)) + o)) ((s1 (20, 0, 0) 36).toNatClampNeg)))
def sp_83 (n : Nat) (fi : FI) (p : Nat) (o : Nat) : FI := (xm_up (xm_up ((sp_85 (lq_it n (sp_83_33 p o) (sp_84 (xm_up fi (20, 0, 0) 36 (0 : Int32)) (fi (21, 27, 0) ((6 * p) + o)) (fi (21, 28, 0) ((6 * p) + o)) 0)) ((lq_it n (sp_83_33 p o) (sp_84 (xm_up fi (20, 0, 0) 36 (0 : Int32)) (fi (21, 27, 0) ((6 * p) + o)) (fi (21, 28, 0) ((6 * p) + o)) 0)) (20, 0, 0) 36) (((lq_it n (sp_83_33 p o) (sp_84 (xm_up fi (20, 0, 0) 36 (0 : Int32)) (fi (21, 27, 0) ((6 * p) + o)) (fi (21, 28, 0) ((6 * p) + o)) 0)) (20, 0, 0) 36).toNatClampNeg)).2) (21, 16, 0) ((6 * p) + o) (bI ((sp_85 (lq_it n (sp_83_33 p o) (sp_84 (xm_up fi (20, 0, 0) 36 (0 : Int32)) (fi (21, 27, 0) ((6 * p) + o)) (fi (21, 28, 0) ((6 * p) + o)) 0)) ((lq_it n (sp_83_33 p o) (sp_84 (xm_up fi (20, 0, 0) 36 (0 : Int32)) (fi (21, 27, 0) ((6 * p) + o)) (fi (21, 28, 0) ((6 * p) + o)) 0)) (20, 0, 0) 36) (((lq_it n (sp_83_33 p o) (sp_84 (xm_up fi (20, 0, 0) 36 (0 : Int32)) (fi (21, 27, 0) ((6 * p) + o)) (fi (21, 28, 0) ((6 * p) + o)) 0)) (20, 0, 0) 36).toNatClampNeg)).1))) (21, 17, 0) ((6 * p) + o) (((sp_85 (lq_it n (sp_83_33 p o) (sp_84 (xm_up fi (20, 0, 0) 36 (0 : Int32)) (fi (21, 27, 0) ((6 * p) + o)) (fi (21, 28, 0) ((6 * p) + o)) 0)) ((lq_it n (sp_83_33 p o) (sp_84 (xm_up fi (20, 0, 0) 36 (0 : Int32)) (fi (21, 27, 0) ((6 * p) + o)) (fi (21, 28, 0) ((6 * p) + o)) 0)) (20, 0, 0) 36) (((lq_it n (sp_83_33 p o) (sp_84 (xm_up fi (20, 0, 0) 36 (0 : Int32)) (fi (21, 27, 0) ((6 * p) + o)) (fi (21, 28, 0) ((6 * p) + o)) 0)) (20, 0, 0) 36).toNatClampNeg)).2) (20, 0, 0) 39))
theorem kp_sp_83 (n : Nat) (fi : FI) (p : Nat) (o : Nat) : kp [2036, 2039, 2116, 2117, 2137, 2138] fi (sp_83 n fi p o) := by
  unfold sp_83
  exact (kp_up (kp_up (kp_tr (kp_tr (kp_tr (kp_up (kp_re [2036, 2039, 2116, 2117, 2137, 2138] fi) rfl) rfl (kp_sp_84 (xm_up fi (20, 0, 0) 36 (0 : Int32)) (fi (21, 27, 0) ((6 * p) + o)) (fi (21, 28, 0) ((6 * p) + o)) 0)) rfl (kp_it (L := [2036, 2137, 2138]) (p := fun (s : FI) => s) (N := n) (F := sp_83_33 p o) (s0 := (sp_84 (xm_up fi (20, 0, 0) 36 (0 : Int32)) (fi (21, 27, 0) ((6 * p) + o)) (fi (21, 28, 0) ((6 * p) + o)) 0)) (kp_re [2036, 2137, 2138] (sp_84 (xm_up fi (20, 0, 0) 36 (0 : Int32)) (fi (21, 27, 0) ((6 * p) + o)) (fi (21, 28, 0) ((6 * p) + o)) 0)) (fun i s => kp_sp_83_33 p o i s))) rfl (kp_sp_85 (lq_it n (sp_83_33 p o) (sp_84 (xm_up fi (20, 0, 0) 36 (0 : Int32)) (fi (21, 27, 0) ((6 * p) + o)) (fi (21, 28, 0) ((6 * p) + o)) 0)) ((lq_it n (sp_83_33 p o) (sp_84 (xm_up fi (20, 0, 0) 36 (0 : Int32)) (fi (21, 27, 0) ((6 * p) + o)) (fi (21, 28, 0) ((6 * p) + o)) 0)) (20, 0, 0) 36) (((lq_it n (sp_83_33 p o) (sp_84 (xm_up fi (20, 0, 0) 36 (0 : Int32)) (fi (21, 27, 0) ((6 * p) + o)) (fi (21, 28, 0) ((6 * p) + o)) 0)) (20, 0, 0) 36).toNatClampNeg))) rfl) rfl)
theorem vt_83_33 (p o i1 : Nat) (s1 : FI) (hp : p < 6) (ho : o < 6) (hi : i1 < 6) (hne : p ≠ o) (h : vt (1 + i1 - xb p i1 - xb o i1) s1) : vt (1 + (i1 + 1) - xb p (i1 + 1) - xb o (i1 + 1)) (sp_83_33 p o i1 s1) := by
  have h' := vt_get h (by omega)
  have x1 := xb_c p i1
  have x2 := xb_c o i1
  have x3 := xb_c p (i1 + 1)
  have x4 := xb_c o (i1 + 1)
  unfold sp_83_33
  rcases Classical.em (nI i1 = nI o) with hc | hc
  · rw [if_pos hc]
    have e := (nI_eq (by omega) (by omega)).mp hc
    exact vt_mono h (by omega)
  · rw [if_neg hc]
    have e : i1 ≠ o := fun z => hc (by rw [z])
    rcases Classical.em (nI i1 = nI p) with hc2 | hc2
    · rw [if_pos hc2]
      have e := (nI_eq (by omega) (by omega)).mp hc2
      exact vt_mono h (by omega)
    · rw [if_neg hc2]
      have e2 : i1 ≠ p := fun z => hc2 (by rw [z])
      rcases Classical.em (s1 (21, 14, 0) (6 * p + i1) = 0) with hc3 | hc3
      · rw [if_pos hc3]
        exact vt_mono h (by omega)
      · rw [if_neg hc3]
        exact vt_of (vt_84 _ _ _ _) (by omega)
set_option maxRecDepth 4000 in
theorem ct_83 {n : Nat} {E : xm_E} {c : Nat × Nat} {fi : FI} {fl : FL} {r : xm_I → Nat → Option xm_I} {d : Nat} {p : Nat} {o : Nat} (hs : sh n E c r) (hp : p < n) (ho : o < n) (hne : p ≠ o) (hf : fz n fi) (hb27 : bz 27 fi) (hb29 : bz 29 fi) : xm_C E (d + 2) true 83 [xm_r (20, 0, 0), xm_i (nI p), xm_i (nI o)] (c, fi, fl, r) (.inl (none), (c, (sp_83 n fi p o), fl, r)) := by
  have hn := sh_n hs
  suffices key : ∀ R : xm_O, ((.inl (none), (c, (sp_83 n fi p o), fl, r)) : xm_O) = R → xm_G E (d + 1) true 83 0 [some (xm_r (20, 0, 0)), some (xm_i (nI p)), some (xm_i (nI o)), none] [] (c, fi, fl, r) R from go_inr (by decide) (Nat.le_of_ble_eq_true rfl) (key _ rfl)
  intro R hR
  refine pg_83_0 rfl ?_
  refine pg_83_1 ?_
  refine pg_83_2 (sk20 hs) ?_
  refine pg_83_5 rfl ?_
  refine pg_83_6 rfl ?_
  refine pg_83_7 (sk20 hs) (sr20_27 hs) ?_
  refine pg_83_10 ?_
  refine pg_83_12 rfl ?_
  refine pg_83_13 ?_
  refine go_top (y := nI (6 * p)) (nx_mul (rfl : (6 : Int32) = nI 6) rfl) ?_
  refine pg_83_14 rfl ?_
  refine pg_83_15 ?_
  refine go_top (y := nI ((6 * p) + o)) (nx_add rfl rfl) ?_
  refine pg_83_16 (sk21_27 hs) (i := ((6 * p) + o)) rfl (by omega) (by omega) ?_
  refine go_top (y := (fi (21, 27, 0) ((6 * p) + o))) (by simp [xm_up]) ?_
  refine pg_83_17 rfl ?_
  refine pg_83_18 (sk20 hs) (sr20_28 hs) ?_
  refine pg_83_21 ?_
  refine pg_83_23 rfl ?_
  refine pg_83_24 ?_
  refine go_top (y := nI (6 * p)) (nx_mul (rfl : (6 : Int32) = nI 6) rfl) ?_
  refine pg_83_25 rfl ?_
  refine pg_83_26 ?_
  refine go_top (y := nI ((6 * p) + o)) (nx_add rfl rfl) ?_
  refine pg_83_27 (Or.inl (sk21_28 hs)) (i := ((6 * p) + o)) rfl (by omega) (by omega) ?_
  refine go_top (y := (fi (21, 28, 0) ((6 * p) + o))) (by simp [xm_up]) ?_
  refine pg_83_28 (sk20 hs) (Nat.le_of_ble_eq_true rfl) (ct_84 (b := (fi (21, 27, 0) ((6 * p) + o))) (x := (fi (21, 28, 0) ((6 * p) + o))) (w := 0) hs (by omega) (by simp [xm_up]; rfl) (hb27 _)) ?_
  refine pg_83_31 ?_
  refine pg_83_32 (lv' := [some (xm_r (20, 0, 0)), some (xm_i (nI p)), some (xm_i (nI o)), some (xm_i (0 : Int32))]) rfl ?_
  refine (lq_li (N := n) (f := sp_83_33 p o) (s0 := (sp_84 (xm_up fi (20, 0, 0) 36 (0 : Int32)) (fi (21, 27, 0) ((6 * p) + o)) (fi (21, 28, 0) ((6 * p) + o)) 0)) (P := fun i1 s1 => xm_G E (d + 1) true 83 33 [some (xm_r (20, 0, 0)), some (xm_i (nI p)), some (xm_i (nI o)), some (xm_i (nI i1))] [] (c, s1, fl, r) R) (I := fun i1 s1 => kp [2036, 2137, 2138] (sp_84 (xm_up fi (20, 0, 0) 36 (0 : Int32)) (fi (21, 27, 0) ((6 * p) + o)) (fi (21, 28, 0) ((6 * p) + o)) 0) s1 ∧ vt (1 + i1 - xb p i1 - xb o i1) s1) (⟨kp_re [2036, 2137, 2138] _, vt_of (vt_84 _ _ _ _) (by have := xb_c p 0; have := xb_c o 0; omega)⟩) (fun i1 s1 hi1 hz => by obtain ⟨hk1, hv1⟩ := hz; exact ⟨kp_tr hk1 rfl (kp_sp_83_33 p o i1 s1), vt_83_33 p o i1 s1 (by omega) (by omega) (by omega) hne hv1⟩) ?_ ?_)
  · intro i1 s1 hi1 hz K1
    obtain ⟨hk1, hv1⟩ := hz
    show xm_G E (d + 1) true 83 33 [some (xm_r (20, 0, 0)), some (xm_i (nI p)), some (xm_i (nI o)), some (xm_i (nI i1))] [] (c, s1, fl, r) R
    refine pg_83_33 rfl ?_
    refine pg_83_34 rfl ?_
    refine pg_83_35 (sk20 hs) ?_
    refine go_top (y := nI n) (fz_kp hf (kp_tr (kp_tr (kp_tr (kp_up (kp_re [2036, 2039, 2116, 2117, 2137, 2138] fi) rfl) rfl (kp_sp_84 (xm_up fi (20, 0, 0) 36 (0 : Int32)) (fi (21, 27, 0) ((6 * p) + o)) (fi (21, 28, 0) ((6 * p) + o)) 0)) rfl hk1) rfl (kp_re [2036, 2137, 2138] s1)) rfl rfl rfl).2 ?_
    refine pg_83_38 (fun hc => absurd hc (nx_nle (a := i1) (b := n) rfl rfl (by omega) (by omega))) (fun _ => ?_)
    refine pg_83_41 rfl ?_
    refine pg_83_42 rfl ?_
    refine pg_83_43 (fun hc1 => ?_) (fun hc2 => ?_)
    · refine pg_83_101 (y := (nI (i1 + 1))) (lv' := [some (xm_r (20, 0, 0)), some (xm_i (nI p)), some (xm_i (nI o)), some (xm_i (nI (i1 + 1)))]) rfl (nI_1 i1) rfl ?_
      refine pg_83_104 ?_
      exact K1 s1 (by unfold sp_83_33; try rw [if_pos hc1]; all_goals rfl)
    · refine pg_83_46 rfl ?_
      refine pg_83_47 rfl ?_
      refine pg_83_48 (fun hc3 => ?_) (fun hc4 => ?_)
      · refine pg_83_101 (y := (nI (i1 + 1))) (lv' := [some (xm_r (20, 0, 0)), some (xm_i (nI p)), some (xm_i (nI o)), some (xm_i (nI (i1 + 1)))]) rfl (nI_1 i1) rfl ?_
        refine pg_83_104 ?_
        exact K1 s1 (by unfold sp_83_33; try rw [if_neg hc2]; try rw [if_pos hc3]; all_goals rfl)
      · refine pg_83_51 rfl ?_
        refine pg_83_52 (sk20 hs) (sr20_14 hs) ?_
        refine pg_83_55 ?_
        refine pg_83_57 rfl ?_
        refine pg_83_58 ?_
        refine go_top (y := nI (6 * p)) (nx_mul (rfl : (6 : Int32) = nI 6) rfl) ?_
        refine pg_83_59 rfl ?_
        refine pg_83_60 ?_
        refine go_top (y := nI ((6 * p) + i1)) (nx_add rfl rfl) ?_
        refine pg_83_61 (sk21_14 hs) (i := ((6 * p) + i1)) rfl (by omega) (by omega) ?_
        refine pg_83_62 (fun hc5 => ?_) (fun hc6 => ?_)
        · refine pg_83_101 (y := (nI (i1 + 1))) (lv' := [some (xm_r (20, 0, 0)), some (xm_i (nI p)), some (xm_i (nI o)), some (xm_i (nI (i1 + 1)))]) rfl (nI_1 i1) rfl ?_
          refine pg_83_104 ?_
          exact K1 s1 (by unfold sp_83_33; try rw [if_neg hc2]; try rw [if_neg hc4]; try rw [if_pos hc5]; all_goals rfl)
        · have hw1 := vt_get hv1 (by omega)
          have hne1 : i1 ≠ o := fun z => hc2 (by rw [z])
          have hne2 : i1 ≠ p := fun z => hc4 (by rw [z])
          have hw2 : (s1 (20, 0, 0) 36).toNatClampNeg < 6 := by have h2 := hw1.2; have := xb_c p i1; have := xb_c o i1; omega
          refine pg_83_65 rfl ?_
          refine pg_83_66 rfl ?_
          refine pg_83_67 (sk20 hs) (sr20_29 hs) ?_
          refine pg_83_70 ?_
          refine pg_83_72 rfl ?_
          refine pg_83_73 ?_
          refine go_top (y := nI (36 * p)) (nx_mul (rfl : (36 : Int32) = nI 36) rfl) ?_
          refine pg_83_74 ?_
          refine pg_83_76 rfl ?_
          refine pg_83_77 ?_
          refine go_top (y := nI (6 * i1)) (nx_mul (rfl : (6 : Int32) = nI 6) rfl) ?_
          refine pg_83_78 ?_
          refine go_top (y := nI ((36 * p) + (6 * i1))) (nx_add rfl rfl) ?_
          refine pg_83_79 rfl ?_
          refine pg_83_80 ?_
          refine go_top (y := nI (((36 * p) + (6 * i1)) + o)) (nx_add rfl rfl) ?_
          refine pg_83_81 (sk21_29 hs) (i := (((36 * p) + (6 * i1)) + o)) rfl (by omega) (by omega) ?_
          refine pg_83_82 rfl ?_
          refine pg_83_83 (sk20 hs) (sr20_30 hs) ?_
          refine pg_83_86 ?_
          refine pg_83_88 rfl ?_
          refine pg_83_89 ?_
          refine go_top (y := nI (36 * p)) (nx_mul (rfl : (36 : Int32) = nI 36) rfl) ?_
          refine pg_83_90 ?_
          refine pg_83_92 rfl ?_
          refine pg_83_93 ?_
          refine go_top (y := nI (6 * i1)) (nx_mul (rfl : (6 : Int32) = nI 6) rfl) ?_
          refine pg_83_94 ?_
          refine go_top (y := nI ((36 * p) + (6 * i1))) (nx_add rfl rfl) ?_
          refine pg_83_95 rfl ?_
          refine pg_83_96 ?_
          refine go_top (y := nI (((36 * p) + (6 * i1)) + o)) (nx_add rfl rfl) ?_
          refine pg_83_97 (Or.inl (sk21_30 hs)) (i := (((36 * p) + (6 * i1)) + o)) rfl (by omega) (by omega) ?_
          refine pg_83_98 (sk20 hs) (Nat.le_of_ble_eq_true rfl) (ct_84 (b := (s1 (21, 29, 0) (((36 * p) + (6 * i1)) + o))) (x := (s1 (21, 30, 0) (((36 * p) + (6 * i1)) + o))) (w := (s1 (20, 0, 0) 36).toNatClampNeg) hs hw2 hw1.1 ((bz_kp hb29 (kp_tr (kp_tr (kp_tr (kp_up (kp_re [2036, 2039, 2116, 2117, 2137, 2138] fi) rfl) rfl (kp_sp_84 (xm_up fi (20, 0, 0) 36 (0 : Int32)) (fi (21, 27, 0) ((6 * p) + o)) (fi (21, 28, 0) ((6 * p) + o)) 0)) rfl hk1) rfl (kp_re [2036, 2137, 2138] s1)) rfl) _)) ?_
          refine pg_83_101 (y := (nI (i1 + 1))) (lv' := [some (xm_r (20, 0, 0)), some (xm_i (nI p)), some (xm_i (nI o)), some (xm_i (nI (i1 + 1)))]) rfl (nI_1 i1) rfl ?_
          refine pg_83_104 ?_
          exact K1 (sp_84 s1 (s1 (21, 29, 0) (((36 * p) + (6 * i1)) + o)) (s1 (21, 30, 0) (((36 * p) + (6 * i1)) + o)) ((s1 (20, 0, 0) 36).toNatClampNeg)) (by unfold sp_83_33; try rw [if_neg hc2]; try rw [if_neg hc4]; try rw [if_neg hc6]; all_goals rfl)
  · intro hz
    obtain ⟨hd1x7, wv33⟩ := hz
    show xm_G E (d + 1) true 83 33 [some (xm_r (20, 0, 0)), some (xm_i (nI p)), some (xm_i (nI o)), some (xm_i (nI n))] [] (c, (lq_it n (sp_83_33 p o) (sp_84 (xm_up fi (20, 0, 0) 36 (0 : Int32)) (fi (21, 27, 0) ((6 * p) + o)) (fi (21, 28, 0) ((6 * p) + o)) 0)), fl, r) R
    refine pg_83_33 rfl ?_
    refine pg_83_34 rfl ?_
    refine pg_83_35 (sk20 hs) ?_
    refine go_top (y := nI n) (fz_kp hf (kp_tr (kp_tr (kp_up (kp_re [2036, 2039, 2116, 2117, 2137, 2138] fi) rfl) rfl (kp_sp_84 (xm_up fi (20, 0, 0) 36 (0 : Int32)) (fi (21, 27, 0) ((6 * p) + o)) (fi (21, 28, 0) ((6 * p) + o)) 0)) rfl (kp_it (L := [2036, 2137, 2138]) (p := fun (s : FI) => s) (N := n) (F := sp_83_33 p o) (s0 := (sp_84 (xm_up fi (20, 0, 0) 36 (0 : Int32)) (fi (21, 27, 0) ((6 * p) + o)) (fi (21, 28, 0) ((6 * p) + o)) 0)) (kp_re [2036, 2137, 2138] (sp_84 (xm_up fi (20, 0, 0) 36 (0 : Int32)) (fi (21, 27, 0) ((6 * p) + o)) (fi (21, 28, 0) ((6 * p) + o)) 0)) (fun i s => kp_sp_83_33 p o i s))) rfl rfl rfl).2 ?_
    refine pg_83_38 (fun _ => ?_) (fun hc => absurd (nx_le (a := n) (b := n) rfl rfl (by omega) (by omega)) hc)
    have hg := vt_get wv33 (by omega)
    have hg2 : ((lq_it n (sp_83_33 p o) (sp_84 (xm_up fi (20, 0, 0) 36 (0 : Int32)) (fi (21, 27, 0) ((6 * p) + o)) (fi (21, 28, 0) ((6 * p) + o)) 0)) (20, 0, 0) 36).toNatClampNeg ≤ 6 := by have h2 := hg.2; have := xb_c p n; have := xb_c o n; omega
    refine pg_83_107 rfl ?_
    refine pg_83_108 (sk20 hs) (sr20_16 hs) ?_
    refine pg_83_111 ?_
    refine pg_83_113 rfl ?_
    refine pg_83_114 ?_
    refine go_top (y := nI (6 * p)) (nx_mul (rfl : (6 : Int32) = nI 6) rfl) ?_
    refine pg_83_115 rfl ?_
    refine pg_83_116 ?_
    refine go_top (y := nI ((6 * p) + o)) (nx_add rfl rfl) ?_
    refine pg_83_117 rfl ?_
    refine pg_83_118 rfl ?_
    refine pg_83_119 (sk20 hs) ?_
    refine pg_83_122 (sk20 hs) (Nat.le_of_ble_eq_true rfl) (ct_85 (x := ((lq_it n (sp_83_33 p o) (sp_84 (xm_up fi (20, 0, 0) 36 (0 : Int32)) (fi (21, 27, 0) ((6 * p) + o)) (fi (21, 28, 0) ((6 * p) + o)) 0)) (20, 0, 0) 36)) (w := ((lq_it n (sp_83_33 p o) (sp_84 (xm_up fi (20, 0, 0) 36 (0 : Int32)) (fi (21, 27, 0) ((6 * p) + o)) (fi (21, 28, 0) ((6 * p) + o)) 0)) (20, 0, 0) 36).toNatClampNeg) hs hg2 hg.1) ?_
    refine pg_83_125 (sk21_16 hs) (i := ((6 * p) + o)) rfl (by omega) (by omega) (bI_01 _) ?_
    refine pg_83_126 rfl ?_
    refine pg_83_127 (sk20 hs) (sr20_17 hs) ?_
    refine pg_83_130 ?_
    refine pg_83_132 rfl ?_
    refine pg_83_133 ?_
    refine go_top (y := nI (6 * p)) (nx_mul (rfl : (6 : Int32) = nI 6) rfl) ?_
    refine pg_83_134 rfl ?_
    refine pg_83_135 ?_
    refine go_top (y := nI ((6 * p) + o)) (nx_add rfl rfl) ?_
    refine pg_83_136 rfl ?_
    refine pg_83_137 (sk20 hs) ?_
    refine go_top (y := (((sp_85 (lq_it n (sp_83_33 p o) (sp_84 (xm_up fi (20, 0, 0) 36 (0 : Int32)) (fi (21, 27, 0) ((6 * p) + o)) (fi (21, 28, 0) ((6 * p) + o)) 0)) ((lq_it n (sp_83_33 p o) (sp_84 (xm_up fi (20, 0, 0) 36 (0 : Int32)) (fi (21, 27, 0) ((6 * p) + o)) (fi (21, 28, 0) ((6 * p) + o)) 0)) (20, 0, 0) 36) (((lq_it n (sp_83_33 p o) (sp_84 (xm_up fi (20, 0, 0) 36 (0 : Int32)) (fi (21, 27, 0) ((6 * p) + o)) (fi (21, 28, 0) ((6 * p) + o)) 0)) (20, 0, 0) 36).toNatClampNeg)).2) (20, 0, 0) 39)) (by simp [xm_up]) ?_
    refine pg_83_140 (sk21_17 hs) (i := ((6 * p) + o)) rfl (by omega) (by omega) ?_
    exact go_eq (hR.symm.trans (by unfold sp_83; all_goals rfl)) (pg_83_141)
-- 82: Model.agreeAll
def sp_82_32 (n : Nat) (i1 : Nat) (i2 : Nat) (s2 : FI) : FI := if (nI i2) = (nI i1) then ((xm_up (xm_up s2 (21, 16, 0) (7 * i1) (1 : Int32)) (21, 17, 0) (7 * i1) (s2 (21, 8, 0) i1))) else ((sp_83 n s2 i1 i2))
theorem kp_sp_82_32 (n : Nat) (i1 : Nat) (i2 : Nat) (s2 : FI) : kp [2036, 2039, 2116, 2117, 2137, 2138] s2 (sp_82_32 n i1 i2 s2) := by
  unfold sp_82_32
  rcases Classical.em ((nI i2) = (nI i1)) with hc | hc
  · (try rw [if_pos hc])
    exact (kp_up (kp_up (kp_re [2036, 2039, 2116, 2117, 2137, 2138] s2) rfl) rfl)
  · (try rw [if_neg hc])
    exact (kp_tr (kp_re [2036, 2039, 2116, 2117, 2137, 2138] s2) rfl (kp_sp_83 n s2 i1 i2))
def sp_82_2 (n : Nat) (i1 : Nat) (s1 : FI) : FI := if (s1 (21, 11, 0) i1) = 0 then ((lq_it n (sp_82_32 n i1) (xm_up s1 (21, 18, 0) i1 (bI (if (s1 (21, 11, 0) i1) = 0 then true else false))))) else ((xm_up s1 (21, 18, 0) i1 (bI (if (s1 (21, 11, 0) i1) = 0 then true else false))))
theorem kp_sp_82_2 (n : Nat) (i1 : Nat) (s1 : FI) : kp [2036, 2039, 2116, 2117, 2118, 2137, 2138] s1 (sp_82_2 n i1 s1) := by
  unfold sp_82_2
  rcases Classical.em ((s1 (21, 11, 0) i1) = 0) with hc | hc
  · (try rw [if_pos hc])
    exact (kp_tr (kp_up (kp_re [2036, 2039, 2116, 2117, 2118, 2137, 2138] s1) rfl) rfl (kp_it (L := [2036, 2039, 2116, 2117, 2137, 2138]) (p := fun (s : FI) => s) (N := n) (F := sp_82_32 n i1) (s0 := (xm_up s1 (21, 18, 0) i1 (bI (if (s1 (21, 11, 0) i1) = 0 then true else false)))) (kp_re [2036, 2039, 2116, 2117, 2137, 2138] (xm_up s1 (21, 18, 0) i1 (bI (if (s1 (21, 11, 0) i1) = 0 then true else false)))) (fun i s => kp_sp_82_32 n i1 i s)))
  · (try rw [if_neg hc])
    exact (kp_up (kp_re [2036, 2039, 2116, 2117, 2118, 2137, 2138] s1) rfl)
def sp_82 (n : Nat) (fi : FI) : FI := (lq_it n (sp_82_2 n) fi)
theorem kp_sp_82 (n : Nat) (fi : FI) : kp [2036, 2039, 2116, 2117, 2118, 2137, 2138] fi (sp_82 n fi) := by
  unfold sp_82
  exact (kp_tr (kp_re [2036, 2039, 2116, 2117, 2118, 2137, 2138] fi) rfl (kp_it (L := [2036, 2039, 2116, 2117, 2118, 2137, 2138]) (p := fun (s : FI) => s) (N := n) (F := sp_82_2 n) (s0 := fi) (kp_re [2036, 2039, 2116, 2117, 2118, 2137, 2138] fi) (fun i s => kp_sp_82_2 n i s)))
set_option maxRecDepth 4000 in
theorem ct_82 {n : Nat} {E : xm_E} {c : Nat × Nat} {fi : FI} {fl : FL} {r : xm_I → Nat → Option xm_I} {d : Nat} (hs : sh n E c r) (hf : fz n fi) (hb27 : bz 27 fi) (hb29 : bz 29 fi) : xm_C E (d + 3) true 82 [xm_r (20, 0, 0)] (c, fi, fl, r) (.inl (none), (c, (sp_82 n fi), fl, r)) := by
  have hn := sh_n hs
  suffices key : ∀ R : xm_O, ((.inl (none), (c, (sp_82 n fi), fl, r)) : xm_O) = R → xm_G E (d + 2) true 82 0 [some (xm_r (20, 0, 0)), none, none] [] (c, fi, fl, r) R from go_inr (by decide) (Nat.le_of_ble_eq_true rfl) (key _ rfl)
  intro R hR
  refine pg_82_0 ?_
  refine pg_82_1 (lv' := [some (xm_r (20, 0, 0)), some (xm_i (0 : Int32)), none]) rfl ?_
  refine (lq_li (N := n) (f := sp_82_2 n) (s0 := fi) (P := fun i1 s1 => ∀ u2 : Option xm_V, xm_G E (d + 2) true 82 2 [some (xm_r (20, 0, 0)), some (xm_i (nI i1)), u2] [] (c, s1, fl, r) R) (I := fun i1 s1 => kp [2036, 2039, 2116, 2117, 2118, 2137, 2138] fi s1) (kp_re [2036, 2039, 2116, 2117, 2118, 2137, 2138] _) (fun i1 s1 hi1 hk1 => kp_tr hk1 rfl (kp_sp_82_2 n i1 s1)) ?_ ?_) _
  · intro i1 s1 hi1 hk1 K1 u2
    show xm_G E (d + 2) true 82 2 [some (xm_r (20, 0, 0)), some (xm_i (nI i1)), u2] [] (c, s1, fl, r) R
    refine pg_82_2 rfl ?_
    refine pg_82_3 rfl ?_
    refine pg_82_4 (sk20 hs) ?_
    refine go_top (y := nI n) (fz_kp hf (kp_tr (kp_tr (kp_re [2036, 2039, 2116, 2117, 2118, 2137, 2138] fi) rfl hk1) rfl (kp_re [2036, 2039, 2116, 2117, 2118, 2137, 2138] s1)) rfl rfl rfl).2 ?_
    refine pg_82_7 (fun hc => absurd hc (nx_nle (a := i1) (b := n) rfl rfl (by omega) (by omega))) (fun _ => ?_)
    refine pg_82_10 rfl ?_
    refine pg_82_11 (sk20 hs) (sr20_18 hs) ?_
    refine pg_82_14 rfl ?_
    refine pg_82_15 rfl ?_
    refine pg_82_16 (sk20 hs) (sr20_11 hs) ?_
    refine pg_82_19 rfl ?_
    refine pg_82_20 (sk21_11 hs) (i := i1) rfl (by omega) (by omega) ?_
    suffices KJ : xm_G E (d + 2) true 82 29 [some (xm_r (20, 0, 0)), some (xm_i (nI i1)), u2] [xm_i (bI (if (s1 (21, 11, 0) i1) = 0 then true else false)), xm_i (nI i1), xm_r (21, 18, 0)] (c, s1, fl, r) R by
      refine pg_82_21 (fun hc1 => ?_) (fun hc2 => ?_)
      · refine pg_82_28 ?_
        repeat rw [if_neg hc1] at KJ
        repeat rw [if_neg hc1]
        exact KJ
      · refine pg_82_24 ?_
        refine pg_82_25 ?_
        repeat rw [if_pos hc2] at KJ
        repeat rw [if_pos hc2]
        exact KJ
    refine pg_82_29 (sk21_18 hs) (i := i1) rfl (by omega) (by omega) (bI_01 _) ?_
    refine pg_82_30 ?_
    refine pg_82_31 (lv' := [some (xm_r (20, 0, 0)), some (xm_i (nI i1)), some (xm_i (0 : Int32))]) rfl ?_
    rcases Classical.em ((s1 (21, 11, 0) i1) = 0) with hc3 | hc3
    · refine (lq_li (N := n) (f := sp_82_32 n i1) (s0 := (xm_up s1 (21, 18, 0) i1 (bI (if (s1 (21, 11, 0) i1) = 0 then true else false)))) (P := fun i2 s2 => xm_G E (d + 2) true 82 32 [some (xm_r (20, 0, 0)), some (xm_i (nI i1)), some (xm_i (nI i2))] [] (c, s2, fl, r) R) (I := fun i2 s2 => kp [2036, 2039, 2116, 2117, 2137, 2138] (xm_up s1 (21, 18, 0) i1 (bI (if (s1 (21, 11, 0) i1) = 0 then true else false))) s2) (kp_re [2036, 2039, 2116, 2117, 2137, 2138] _) (fun i2 s2 hi2 hk2 => kp_tr hk2 rfl (kp_sp_82_32 n i1 i2 s2)) ?_ ?_)
      · intro i2 s2 hi2 hk2 K2
        show xm_G E (d + 2) true 82 32 [some (xm_r (20, 0, 0)), some (xm_i (nI i1)), some (xm_i (nI i2))] [] (c, s2, fl, r) R
        refine pg_82_32 rfl ?_
        refine pg_82_33 rfl ?_
        refine pg_82_34 (sk20 hs) ?_
        refine go_top (y := nI n) (fz_kp hf (kp_tr (kp_tr (kp_re [2036, 2039, 2116, 2117, 2118, 2137, 2138] fi) rfl hk1) rfl (kp_tr (kp_tr (kp_up (kp_re [2036, 2039, 2116, 2117, 2118, 2137, 2138] s1) rfl) rfl hk2) rfl (kp_re [2036, 2039, 2116, 2117, 2137, 2138] s2))) rfl rfl rfl).2 ?_
        refine pg_82_37 (fun hc => absurd hc (nx_nle (a := i2) (b := n) rfl rfl (by omega) (by omega))) (fun _ => ?_)
        refine pg_82_40 rfl ?_
        refine pg_82_41 (sk20 hs) (sr20_11 hs) ?_
        refine pg_82_44 rfl ?_
        refine pg_82_45 (sk21_11 hs) (i := i1) rfl (by omega) (by omega) ?_
        refine pg_82_46 (fun hc => absurd (kp_at hk2 (21, 11, 0) i1 rfl (by simp [xm_up]; exact hc3)) hc) (fun _ => ?_)
        refine pg_82_49 rfl ?_
        refine pg_82_50 rfl ?_
        refine pg_82_51 (fun hc4 => ?_) (fun hc5 => ?_)
        · refine pg_82_82 rfl ?_
          refine pg_82_83 rfl ?_
          refine pg_82_84 rfl ?_
          refine pg_82_85 (sk20 hs) (Nat.le_of_ble_eq_true rfl) (ct_83 (p := i1) (o := i2) hs (by omega) (by omega) (fun z => hc4 (by rw [z])) (fz_kp hf (kp_tr (kp_tr (kp_re [2036, 2039, 2116, 2117, 2118, 2137, 2138] fi) rfl hk1) rfl (kp_tr (kp_tr (kp_up (kp_re [2036, 2039, 2116, 2117, 2118, 2137, 2138] s1) rfl) rfl hk2) rfl (kp_re [2036, 2039, 2116, 2117, 2137, 2138] s2))) rfl rfl rfl) (bz_kp hb27 (kp_tr (kp_tr (kp_re [2036, 2039, 2116, 2117, 2118, 2137, 2138] fi) rfl hk1) rfl (kp_tr (kp_tr (kp_up (kp_re [2036, 2039, 2116, 2117, 2118, 2137, 2138] s1) rfl) rfl hk2) rfl (kp_re [2036, 2039, 2116, 2117, 2137, 2138] s2))) rfl) (bz_kp hb29 (kp_tr (kp_tr (kp_re [2036, 2039, 2116, 2117, 2118, 2137, 2138] fi) rfl hk1) rfl (kp_tr (kp_tr (kp_up (kp_re [2036, 2039, 2116, 2117, 2118, 2137, 2138] s1) rfl) rfl hk2) rfl (kp_re [2036, 2039, 2116, 2117, 2137, 2138] s2))) rfl)) ?_
          refine pg_82_88 (y := (nI (i2 + 1))) (lv' := [some (xm_r (20, 0, 0)), some (xm_i (nI i1)), some (xm_i (nI (i2 + 1)))]) rfl (nI_1 i2) rfl ?_
          refine pg_82_91 ?_
          exact K2 (sp_83 n s2 i1 i2) (by unfold sp_82_32; try rw [if_neg hc4]; all_goals rfl)
        · refine pg_82_54 rfl ?_
          refine pg_82_55 (sk20 hs) (sr20_16 hs) ?_
          refine pg_82_58 ?_
          refine pg_82_60 rfl ?_
          refine pg_82_61 ?_
          refine go_top (y := nI (7 * i1)) (nx_mul (rfl : (7 : Int32) = nI 7) rfl) ?_
          refine pg_82_62 ?_
          refine pg_82_63 (sk21_16 hs) (i := (7 * i1)) rfl (by omega) (by omega) (Or.inr rfl) ?_
          refine pg_82_64 rfl ?_
          refine pg_82_65 (sk20 hs) (sr20_17 hs) ?_
          refine pg_82_68 ?_
          refine pg_82_70 rfl ?_
          refine pg_82_71 ?_
          refine go_top (y := nI (7 * i1)) (nx_mul (rfl : (7 : Int32) = nI 7) rfl) ?_
          refine pg_82_72 rfl ?_
          refine pg_82_73 (sk20 hs) (sr20_8 hs) ?_
          refine pg_82_76 rfl ?_
          refine pg_82_77 (Or.inl (sk21_8 hs)) (i := i1) rfl (by omega) (by omega) ?_
          refine go_top (y := (s2 (21, 8, 0) i1)) (by simp [xm_up]) ?_
          refine pg_82_78 (sk21_17 hs) (i := (7 * i1)) rfl (by omega) (by omega) ?_
          refine pg_82_79 ?_
          refine pg_82_88 (y := (nI (i2 + 1))) (lv' := [some (xm_r (20, 0, 0)), some (xm_i (nI i1)), some (xm_i (nI (i2 + 1)))]) rfl (nI_1 i2) rfl ?_
          refine pg_82_91 ?_
          exact K2 (xm_up (xm_up s2 (21, 16, 0) (7 * i1) (1 : Int32)) (21, 17, 0) (7 * i1) (s2 (21, 8, 0) i1)) (by unfold sp_82_32; try rw [if_pos hc5]; all_goals rfl)
      · intro hd2x6
        show xm_G E (d + 2) true 82 32 [some (xm_r (20, 0, 0)), some (xm_i (nI i1)), some (xm_i (nI n))] [] (c, (lq_it n (sp_82_32 n i1) (xm_up s1 (21, 18, 0) i1 (bI (if (s1 (21, 11, 0) i1) = 0 then true else false)))), fl, r) R
        refine pg_82_32 rfl ?_
        refine pg_82_33 rfl ?_
        refine pg_82_34 (sk20 hs) ?_
        refine go_top (y := nI n) (fz_kp hf (kp_tr (kp_tr (kp_re [2036, 2039, 2116, 2117, 2118, 2137, 2138] fi) rfl hk1) rfl (kp_tr (kp_up (kp_re [2036, 2039, 2116, 2117, 2118, 2137, 2138] s1) rfl) rfl (kp_it (L := [2036, 2039, 2116, 2117, 2137, 2138]) (p := fun (s : FI) => s) (N := n) (F := sp_82_32 n i1) (s0 := (xm_up s1 (21, 18, 0) i1 (bI (if (s1 (21, 11, 0) i1) = 0 then true else false)))) (kp_re [2036, 2039, 2116, 2117, 2137, 2138] (xm_up s1 (21, 18, 0) i1 (bI (if (s1 (21, 11, 0) i1) = 0 then true else false)))) (fun i s => kp_sp_82_32 n i1 i s)))) rfl rfl rfl).2 ?_
        refine pg_82_37 (fun _ => ?_) (fun hc => absurd (nx_le (a := n) (b := n) rfl rfl (by omega) (by omega)) hc)
        refine pg_82_94 (y := (nI (i1 + 1))) (lv' := [some (xm_r (20, 0, 0)), some (xm_i (nI (i1 + 1))), some (xm_i (nI n))]) rfl (nI_1 i1) rfl ?_
        refine pg_82_97 ?_
        exact K1 (lq_it n (sp_82_32 n i1) (xm_up s1 (21, 18, 0) i1 (bI (if (s1 (21, 11, 0) i1) = 0 then true else false)))) (by unfold sp_82_2; try rw [if_pos hc3]; all_goals rfl) _
    · refine pg_82_32 rfl ?_
      refine pg_82_33 rfl ?_
      refine pg_82_34 (sk20 hs) ?_
      refine go_top (y := nI n) (fz_kp hf (kp_tr (kp_tr (kp_re [2036, 2039, 2116, 2117, 2118, 2137, 2138] fi) rfl hk1) rfl (kp_up (kp_re [2036, 2039, 2116, 2117, 2118, 2137, 2138] s1) rfl)) rfl rfl rfl).2 ?_
      refine pg_82_37 (fun hc => absurd hc (nx_nle (a := 0) (b := n) (rfl : (0 : Int32) = nI 0) rfl (by omega) (by omega))) (fun _ => ?_)
      refine pg_82_40 rfl ?_
      refine pg_82_41 (sk20 hs) (sr20_11 hs) ?_
      refine pg_82_44 rfl ?_
      refine pg_82_45 (sk21_11 hs) (i := i1) rfl (by omega) (by omega) ?_
      refine go_top (y := (s1 (21, 11, 0) i1)) (by simp [xm_up]) ?_
      refine pg_82_46 (fun _ => ?_) (fun hc => absurd hc hc3)
      refine pg_82_94 (y := (nI (i1 + 1))) (lv' := [some (xm_r (20, 0, 0)), some (xm_i (nI (i1 + 1))), some (xm_i (0 : Int32))]) rfl (nI_1 i1) rfl ?_
      refine pg_82_97 ?_
      exact K1 (xm_up s1 (21, 18, 0) i1 (bI (if (s1 (21, 11, 0) i1) = 0 then true else false))) (by unfold sp_82_2; try rw [if_neg hc3]; all_goals rfl) _
  · intro hd1x7 u2
    show xm_G E (d + 2) true 82 2 [some (xm_r (20, 0, 0)), some (xm_i (nI n)), u2] [] (c, (lq_it n (sp_82_2 n) fi), fl, r) R
    refine pg_82_2 rfl ?_
    refine pg_82_3 rfl ?_
    refine pg_82_4 (sk20 hs) ?_
    refine go_top (y := nI n) (fz_kp hf (kp_tr (kp_re [2036, 2039, 2116, 2117, 2118, 2137, 2138] fi) rfl (kp_it (L := [2036, 2039, 2116, 2117, 2118, 2137, 2138]) (p := fun (s : FI) => s) (N := n) (F := sp_82_2 n) (s0 := fi) (kp_re [2036, 2039, 2116, 2117, 2118, 2137, 2138] fi) (fun i s => kp_sp_82_2 n i s))) rfl rfl rfl).2 ?_
    refine pg_82_7 (fun _ => ?_) (fun hc => absurd (nx_le (a := n) (b := n) rfl rfl (by omega) (by omega)) hc)
    exact go_eq (hR.symm.trans (by unfold sp_82; all_goals rfl)) (pg_82_100)
-- 86: Model.control
def sp_86_4 (fi : FI) (p : Nat) (i1 : Nat) (s1 : Nat) : Nat := (if (bI (sp_87 fi p i1)) = 0 then s1 else (s1 + 1))
def sp_86_60 (n : Nat) (fi : FI) (p : Nat) (i1 : Nat) (s1 : Int64) : Int64 := (if (bI (sp_87 (xm_up fi (21, 19, 0) p (bI (if (nI (lq_it n (sp_86_4 fi p) 0)) ≤ 0 then false else true))) p i1)) = 0 then s1 else (if (nI (((lq_it n (sp_86_4 fi p) 0) - 1) / 2)) < (nI (sp_88 n (xm_up fi (21, 19, 0) p (bI (if (nI (lq_it n (sp_86_4 fi p) 0)) ≤ 0 then false else true))) p (fi (21, 17, 0) ((6 * p) + i1)) false)) then s1 else (if (nI (sp_88 n (xm_up fi (21, 19, 0) p (bI (if (nI (lq_it n (sp_86_4 fi p) 0)) ≤ 0 then false else true))) p (fi (21, 17, 0) ((6 * p) + i1)) true)) ≤ (nI (((lq_it n (sp_86_4 fi p) 0) - 1) / 2)) then s1 else ((fi (21, 17, 0) ((6 * p) + i1)).toInt64))))
def sp_86_e (n : Nat) (fi : FI) (p : Nat) : Int64 := (sp_89 (((fi (20, 0, 0) 4).toInt64) - (lq_it n (sp_86_60 n fi p) (0 : Int64))) (-2147483648 : Int64) (2147483647 : Int64))
def sp_86_i (n : Nat) (fi : FI) (p : Nat) : Int64 := (sp_89 (((fi (21, 12, 0) p).toInt64) + ((((fi (20, 0, 0) 6).toInt64) * (sp_86_e n fi p)) >>> ((16 : Int32).toInt64 &&& 63))) (-16777216 : Int64) (16777216 : Int64))
def sp_86_u (n : Nat) (fi : FI) (p : Nat) : Int64 := ((((((fi (20, 0, 0) 5).toInt64) * (sp_86_e n fi p)) >>> ((16 : Int32).toInt64 &&& 63)) + (sp_86_i n fi p)) + ((((fi (20, 0, 0) 7).toInt64) * ((sp_86_e n fi p) - ((fi (21, 13, 0) p).toInt64))) >>> ((16 : Int32).toInt64 &&& 63)))
def sp_86 (n : Nat) (fi : FI) (p : Nat) : FI := if (nI (lq_it n (sp_86_4 fi p) 0)) = 0 then ((xm_up fi (21, 19, 0) p (bI (if (nI (lq_it n (sp_86_4 fi p) 0)) ≤ 0 then false else true)))) else ((xm_up (xm_up (xm_up (xm_up fi (21, 19, 0) p (bI (if (nI (lq_it n (sp_86_4 fi p) 0)) ≤ 0 then false else true))) (21, 20, 0) p ((sp_89 (sp_86_u n fi p) (-16777216 : Int64) (16777216 : Int64)).toInt32)) (21, 12, 0) p (if (bI (if (lg_cmp (sp_86_u n fi p) (16777216 : Int64)) ≤ 0 then (if 0 ≤ (lg_cmp (sp_86_u n fi p) (-16777216 : Int64)) then false else (if 0 ≤ (lg_cmp (sp_86_e n fi p) (0 : Int64)) then false else true)) else (if 0 < (lg_cmp (sp_86_e n fi p) (0 : Int64)) then true else (if 0 ≤ (lg_cmp (sp_86_u n fi p) (-16777216 : Int64)) then false else (if 0 ≤ (lg_cmp (sp_86_e n fi p) (0 : Int64)) then false else true))))) = 0 then ((sp_86_i n fi p).toInt32) else (fi (21, 12, 0) p))) (21, 13, 0) p ((sp_86_e n fi p).toInt32)))
theorem kp_sp_86 (n : Nat) (fi : FI) (p : Nat) : kp [2112, 2113, 2119, 2120] fi (sp_86 n fi p) := by
  unfold sp_86
  rcases Classical.em ((nI (lq_it n (sp_86_4 fi p) 0)) = 0) with hc | hc
  · (try rw [if_pos hc])
    exact (kp_up (kp_re [2112, 2113, 2119, 2120] fi) rfl)
  · (try rw [if_neg hc])
    exact (kp_up (kp_up (kp_up (kp_up (kp_re [2112, 2113, 2119, 2120] fi) rfl) rfl) rfl) rfl)
theorem le_86_4 (fi : FI) (p : Nat) : ∀ m, lq_it m (sp_86_4 fi p) 0 ≤ m := by
  intro m
  induction m with
  | zero => exact Nat.le_refl 0
  | succ m ih =>
    show sp_86_4 fi p m (lq_it m (sp_86_4 fi p) 0) ≤ m + 1
    generalize lq_it m (sp_86_4 fi p) 0 = z at ih
    unfold sp_86_4
    split <;> omega
set_option maxRecDepth 4000 in
theorem ct_86 {n : Nat} {E : xm_E} {c : Nat × Nat} {fi : FI} {fl : FL} {r : xm_I → Nat → Option xm_I} {d : Nat} {p : Nat} (hs : sh n E c r) (hp : p < n) (hf : fz n fi) : xm_C E (d + 3) true 86 [xm_r (20, 0, 0), xm_i (nI p)] (c, fi, fl, r) (.inl (none), (c, (sp_86 n fi p), fl, r)) := by
  have hn := sh_n hs
  suffices key : ∀ R : xm_O, ((.inl (none), (c, (sp_86 n fi p), fl, r)) : xm_O) = R → xm_G E (d + 2) true 86 0 [some (xm_r (20, 0, 0)), some (xm_i (nI p)), none, none, none, none, none, none, none, none, none, none] [] (c, fi, fl, r) R from go_inr (by decide) (Nat.le_of_ble_eq_true rfl) (key _ rfl)
  intro R hR
  refine pg_86_0 ?_
  refine pg_86_1 (lv' := [some (xm_r (20, 0, 0)), some (xm_i (nI p)), some (xm_i (0 : Int32)), none, none, none, none, none, none, none, none, none]) rfl ?_
  refine pg_86_2 ?_
  refine pg_86_3 (lv' := [some (xm_r (20, 0, 0)), some (xm_i (nI p)), some (xm_i (0 : Int32)), some (xm_i (0 : Int32)), none, none, none, none, none, none, none, none]) rfl ?_
  refine (lq_loop (N := n) (f := sp_86_4 fi p) (s0 := 0) (P := fun i1 s1 => xm_G E (d + 2) true 86 4 [some (xm_r (20, 0, 0)), some (xm_i (nI p)), some (xm_i (nI s1)), some (xm_i (nI i1)), none, none, none, none, none, none, none, none] [] (c, fi, fl, r) R) ?_ ?_)
  · intro i1 s1 hi1 K1
    show xm_G E (d + 2) true 86 4 [some (xm_r (20, 0, 0)), some (xm_i (nI p)), some (xm_i (nI s1)), some (xm_i (nI i1)), none, none, none, none, none, none, none, none] [] (c, fi, fl, r) R
    refine pg_86_4 rfl ?_
    refine pg_86_5 rfl ?_
    refine pg_86_6 (sk20 hs) ?_
    refine go_top (y := nI n) (fz_kp hf (kp_re [2112, 2113, 2119, 2120] fi) rfl rfl rfl).2 ?_
    refine pg_86_9 (fun hc => absurd hc (nx_nle (a := i1) (b := n) rfl rfl (by omega) (by omega))) (fun _ => ?_)
    refine pg_86_12 rfl ?_
    refine pg_86_13 rfl ?_
    refine pg_86_14 rfl ?_
    refine pg_86_15 (sk20 hs) (Nat.le_of_ble_eq_true rfl) (ct_87 (p := p) (o := i1) hs (by omega) (by omega)) ?_
    suffices KJ : xm_G E (d + 2) true 86 28 [some (xm_r (20, 0, 0)), some (xm_i (nI p)), some (xm_i (nI s1)), some (xm_i (nI i1)), none, none, none, none, none, none, none, none] [xm_i (nI (if (bI (sp_87 fi p i1)) = 0 then s1 else (s1 + 1)))] (c, fi, fl, r) R by
      refine pg_86_18 (fun hc1 => ?_) (fun hc2 => ?_)
      · refine pg_86_27 rfl ?_
        repeat rw [if_pos hc1] at KJ
        repeat rw [if_pos hc1]
        exact KJ
      · refine pg_86_21 rfl ?_
        refine pg_86_22 ?_
        refine pg_86_23 ?_
        refine go_top (y := nI (s1 + 1)) (nx_add rfl (rfl : (1 : Int32) = nI 1)) ?_
        refine pg_86_24 ?_
        repeat rw [if_neg hc2] at KJ
        repeat rw [if_neg hc2]
        exact KJ
    refine pg_86_28 (lv' := [some (xm_r (20, 0, 0)), some (xm_i (nI p)), some (xm_i (nI (if (bI (sp_87 fi p i1)) = 0 then s1 else (s1 + 1)))), some (xm_i (nI i1)), none, none, none, none, none, none, none, none]) rfl ?_
    refine pg_86_29 (y := (nI (i1 + 1))) (lv' := [some (xm_r (20, 0, 0)), some (xm_i (nI p)), some (xm_i (nI (if (bI (sp_87 fi p i1)) = 0 then s1 else (s1 + 1)))), some (xm_i (nI (i1 + 1))), none, none, none, none, none, none, none, none]) rfl (nI_1 i1) rfl ?_
    refine pg_86_32 ?_
    exact K1 (if (bI (sp_87 fi p i1)) = 0 then s1 else (s1 + 1)) (by unfold sp_86_4; all_goals rfl)
  · skip
    show xm_G E (d + 2) true 86 4 [some (xm_r (20, 0, 0)), some (xm_i (nI p)), some (xm_i (nI (lq_it n (sp_86_4 fi p) 0))), some (xm_i (nI n)), none, none, none, none, none, none, none, none] [] (c, fi, fl, r) R
    refine pg_86_4 rfl ?_
    refine pg_86_5 rfl ?_
    refine pg_86_6 (sk20 hs) ?_
    refine go_top (y := nI n) (fz_kp hf (kp_re [2112, 2113, 2119, 2120] fi) rfl rfl rfl).2 ?_
    refine pg_86_9 (fun _ => ?_) (fun hc => absurd (nx_le (a := n) (b := n) rfl rfl (by omega) (by omega)) hc)
    refine pg_86_35 rfl ?_
    refine pg_86_36 (sk20 hs) (sr20_19 hs) ?_
    refine pg_86_39 rfl ?_
    refine pg_86_40 rfl ?_
    suffices KJ : xm_G E (d + 2) true 86 49 [some (xm_r (20, 0, 0)), some (xm_i (nI p)), some (xm_i (nI (lq_it n (sp_86_4 fi p) 0))), some (xm_i (nI n)), none, none, none, none, none, none, none, none] [xm_i (bI (if (nI (lq_it n (sp_86_4 fi p) 0)) ≤ 0 then false else true)), xm_i (nI p), xm_r (21, 19, 0)] (c, fi, fl, r) R by
      refine pg_86_41 (fun hc4 => ?_) (fun hc5 => ?_)
      · refine pg_86_48 ?_
        repeat rw [if_pos hc4] at KJ
        repeat rw [if_pos hc4]
        exact KJ
      · refine pg_86_44 ?_
        refine pg_86_45 ?_
        repeat rw [if_neg hc5] at KJ
        repeat rw [if_neg hc5]
        exact KJ
    refine pg_86_49 (sk21_19 hs) (i := p) rfl (by omega) (by omega) (bI_01 _) ?_
    refine pg_86_50 rfl ?_
    refine pg_86_51 (fun hc6 => ?_) (fun hc7 => ?_)
    · have hc86 := hc6
      have hm86 := le_86_4 fi p n
      refine pg_86_55 ?_
      refine pg_86_56 (lv' := [some (xm_r (20, 0, 0)), some (xm_i (nI p)), some (xm_i (nI (lq_it n (sp_86_4 fi p) 0))), some (xm_l (0 : Int64)), none, none, none, none, none, none, none, none]) rfl ?_
      refine pg_86_57 ?_
      refine pg_86_58 (lv' := [some (xm_r (20, 0, 0)), some (xm_i (nI p)), some (xm_i (nI (lq_it n (sp_86_4 fi p) 0))), some (xm_l (0 : Int64)), none, some (xm_i (0 : Int32)), none, none, none, none, none, none]) rfl ?_
      refine (lq_loop (N := n) (f := sp_86_60 n fi p) (s0 := (0 : Int64)) (P := fun i1 s1 => ∀ u6 : Option xm_V, xm_G E (d + 2) true 86 60 [some (xm_r (20, 0, 0)), some (xm_i (nI p)), some (xm_i (nI (lq_it n (sp_86_4 fi p) 0))), some (xm_l s1), none, some (xm_i (nI i1)), u6, none, none, none, none, none] [] (c, (xm_up fi (21, 19, 0) p (bI (if (nI (lq_it n (sp_86_4 fi p) 0)) ≤ 0 then false else true))), fl, r) R) ?_ ?_) _
      · intro i1 s1 hi1 K1 u6
        show xm_G E (d + 2) true 86 60 [some (xm_r (20, 0, 0)), some (xm_i (nI p)), some (xm_i (nI (lq_it n (sp_86_4 fi p) 0))), some (xm_l s1), none, some (xm_i (nI i1)), u6, none, none, none, none, none] [] (c, (xm_up fi (21, 19, 0) p (bI (if (nI (lq_it n (sp_86_4 fi p) 0)) ≤ 0 then false else true))), fl, r) R
        refine pg_86_60 rfl ?_
        refine pg_86_62 rfl ?_
        refine pg_86_63 (sk20 hs) ?_
        refine go_top (y := nI n) (fz_kp hf (kp_up (kp_re [2112, 2113, 2119, 2120] fi) rfl) rfl rfl rfl).2 ?_
        refine pg_86_66 (fun hc => absurd hc (nx_nle (a := i1) (b := n) rfl rfl (by omega) (by omega))) (fun _ => ?_)
        refine pg_86_69 rfl ?_
        refine pg_86_70 (sk20 hs) (sr20_17 hs) ?_
        refine pg_86_73 ?_
        refine pg_86_75 rfl ?_
        refine pg_86_76 ?_
        refine go_top (y := nI (6 * p)) (nx_mul (rfl : (6 : Int32) = nI 6) rfl) ?_
        refine pg_86_77 rfl ?_
        refine pg_86_79 ?_
        refine go_top (y := nI ((6 * p) + i1)) (nx_add rfl rfl) ?_
        refine pg_86_80 (Or.inl (sk21_17 hs)) (i := ((6 * p) + i1)) rfl (by omega) (by omega) ?_
        refine go_top (y := (fi (21, 17, 0) ((6 * p) + i1))) (by simp [xm_up]) ?_
        refine pg_86_81 (lv' := [some (xm_r (20, 0, 0)), some (xm_i (nI p)), some (xm_i (nI (lq_it n (sp_86_4 fi p) 0))), some (xm_l s1), none, some (xm_i (nI i1)), some (xm_i (fi (21, 17, 0) ((6 * p) + i1))), none, none, none, none, none]) rfl ?_
        refine pg_86_83 rfl ?_
        refine pg_86_84 rfl ?_
        refine pg_86_85 rfl ?_
        refine pg_86_87 (sk20 hs) (Nat.le_of_ble_eq_true rfl) (ct_87 (p := p) (o := i1) hs (by omega) (by omega)) ?_
        suffices KJ : xm_G E (d + 2) true 86 132 [some (xm_r (20, 0, 0)), some (xm_i (nI p)), some (xm_i (nI (lq_it n (sp_86_4 fi p) 0))), some (xm_l s1), none, some (xm_i (nI i1)), some (xm_i (fi (21, 17, 0) ((6 * p) + i1))), none, none, none, none, none] [xm_l (if (bI (sp_87 (xm_up fi (21, 19, 0) p (bI (if (nI (lq_it n (sp_86_4 fi p) 0)) ≤ 0 then false else true))) p i1)) = 0 then s1 else (if (nI (((lq_it n (sp_86_4 fi p) 0) - 1) / 2)) < (nI (sp_88 n (xm_up fi (21, 19, 0) p (bI (if (nI (lq_it n (sp_86_4 fi p) 0)) ≤ 0 then false else true))) p (fi (21, 17, 0) ((6 * p) + i1)) false)) then s1 else (if (nI (sp_88 n (xm_up fi (21, 19, 0) p (bI (if (nI (lq_it n (sp_86_4 fi p) 0)) ≤ 0 then false else true))) p (fi (21, 17, 0) ((6 * p) + i1)) true)) ≤ (nI (((lq_it n (sp_86_4 fi p) 0) - 1) / 2)) then s1 else ((fi (21, 17, 0) ((6 * p) + i1)).toInt64))))] (c, (xm_up fi (21, 19, 0) p (bI (if (nI (lq_it n (sp_86_4 fi p) 0)) ≤ 0 then false else true))), fl, r) R by
          refine pg_86_90 (fun hc8 => ?_) (fun hc9 => ?_)
          · refine pg_86_131 rfl ?_
            repeat rw [if_pos hc8] at KJ
            repeat rw [if_pos hc8]
            exact KJ
          · refine pg_86_93 rfl ?_
            refine pg_86_94 rfl ?_
            refine pg_86_95 rfl ?_
            refine pg_86_97 ?_
            refine pg_86_98 (sk20 hs) (Nat.le_of_ble_eq_true rfl) (ct_88 (p := p) (v := (fi (21, 17, 0) ((6 * p) + i1))) (t := false) hs (by omega) (fz_kp hf (kp_up (kp_re [2112, 2113, 2119, 2120] fi) rfl) rfl rfl rfl)) ?_
            refine pg_86_101 rfl ?_
            refine pg_86_102 ?_
            refine pg_86_103 ?_
            refine pg_86_104 ?_
            refine pg_86_105 (by decide) ?_
            refine go_top (y := nI (((lq_it n (sp_86_4 fi p) 0) - 1) / 2)) (nx_half hc86 (by omega)) ?_
            refine pg_86_106 (fun hc10 => ?_) (fun hc11 => ?_)
            · refine pg_86_131 rfl ?_
              repeat rw [if_neg hc9] at KJ
              repeat rw [if_pos hc10] at KJ
              repeat rw [if_neg hc9]
              repeat rw [if_pos hc10]
              exact KJ
            · refine pg_86_109 rfl ?_
              refine pg_86_110 rfl ?_
              refine pg_86_111 rfl ?_
              refine pg_86_113 ?_
              refine pg_86_114 (sk20 hs) (Nat.le_of_ble_eq_true rfl) (ct_88 (p := p) (v := (fi (21, 17, 0) ((6 * p) + i1))) (t := true) hs (by omega) (fz_kp hf (kp_up (kp_re [2112, 2113, 2119, 2120] fi) rfl) rfl rfl rfl)) ?_
              refine pg_86_117 rfl ?_
              refine pg_86_118 ?_
              refine pg_86_119 ?_
              refine pg_86_120 ?_
              refine pg_86_121 (by decide) ?_
              refine go_top (y := nI (((lq_it n (sp_86_4 fi p) 0) - 1) / 2)) (nx_half hc86 (by omega)) ?_
              refine pg_86_122 (fun hc12 => ?_) (fun hc13 => ?_)
              · refine pg_86_131 rfl ?_
                repeat rw [if_neg hc9] at KJ
                repeat rw [if_neg hc11] at KJ
                repeat rw [if_pos hc12] at KJ
                repeat rw [if_neg hc9]
                repeat rw [if_neg hc11]
                repeat rw [if_pos hc12]
                exact KJ
              · refine pg_86_125 rfl ?_
                refine pg_86_127 ?_
                refine pg_86_128 ?_
                repeat rw [if_neg hc9] at KJ
                repeat rw [if_neg hc11] at KJ
                repeat rw [if_neg hc13] at KJ
                repeat rw [if_neg hc9]
                repeat rw [if_neg hc11]
                repeat rw [if_neg hc13]
                exact KJ
        refine pg_86_132 (lv' := [some (xm_r (20, 0, 0)), some (xm_i (nI p)), some (xm_i (nI (lq_it n (sp_86_4 fi p) 0))), some (xm_l (if (bI (sp_87 (xm_up fi (21, 19, 0) p (bI (if (nI (lq_it n (sp_86_4 fi p) 0)) ≤ 0 then false else true))) p i1)) = 0 then s1 else (if (nI (((lq_it n (sp_86_4 fi p) 0) - 1) / 2)) < (nI (sp_88 n (xm_up fi (21, 19, 0) p (bI (if (nI (lq_it n (sp_86_4 fi p) 0)) ≤ 0 then false else true))) p (fi (21, 17, 0) ((6 * p) + i1)) false)) then s1 else (if (nI (sp_88 n (xm_up fi (21, 19, 0) p (bI (if (nI (lq_it n (sp_86_4 fi p) 0)) ≤ 0 then false else true))) p (fi (21, 17, 0) ((6 * p) + i1)) true)) ≤ (nI (((lq_it n (sp_86_4 fi p) 0) - 1) / 2)) then s1 else ((fi (21, 17, 0) ((6 * p) + i1)).toInt64))))), none, some (xm_i (nI i1)), some (xm_i (fi (21, 17, 0) ((6 * p) + i1))), none, none, none, none, none]) rfl ?_
        refine pg_86_133 (y := (nI (i1 + 1))) (lv' := [some (xm_r (20, 0, 0)), some (xm_i (nI p)), some (xm_i (nI (lq_it n (sp_86_4 fi p) 0))), some (xm_l (if (bI (sp_87 (xm_up fi (21, 19, 0) p (bI (if (nI (lq_it n (sp_86_4 fi p) 0)) ≤ 0 then false else true))) p i1)) = 0 then s1 else (if (nI (((lq_it n (sp_86_4 fi p) 0) - 1) / 2)) < (nI (sp_88 n (xm_up fi (21, 19, 0) p (bI (if (nI (lq_it n (sp_86_4 fi p) 0)) ≤ 0 then false else true))) p (fi (21, 17, 0) ((6 * p) + i1)) false)) then s1 else (if (nI (sp_88 n (xm_up fi (21, 19, 0) p (bI (if (nI (lq_it n (sp_86_4 fi p) 0)) ≤ 0 then false else true))) p (fi (21, 17, 0) ((6 * p) + i1)) true)) ≤ (nI (((lq_it n (sp_86_4 fi p) 0) - 1) / 2)) then s1 else ((fi (21, 17, 0) ((6 * p) + i1)).toInt64))))), none, some (xm_i (nI (i1 + 1))), some (xm_i (fi (21, 17, 0) ((6 * p) + i1))), none, none, none, none, none]) rfl (nI_1 i1) rfl ?_
        refine pg_86_136 ?_
        exact K1 (if (bI (sp_87 (xm_up fi (21, 19, 0) p (bI (if (nI (lq_it n (sp_86_4 fi p) 0)) ≤ 0 then false else true))) p i1)) = 0 then s1 else (if (nI (((lq_it n (sp_86_4 fi p) 0) - 1) / 2)) < (nI (sp_88 n (xm_up fi (21, 19, 0) p (bI (if (nI (lq_it n (sp_86_4 fi p) 0)) ≤ 0 then false else true))) p (fi (21, 17, 0) ((6 * p) + i1)) false)) then s1 else (if (nI (sp_88 n (xm_up fi (21, 19, 0) p (bI (if (nI (lq_it n (sp_86_4 fi p) 0)) ≤ 0 then false else true))) p (fi (21, 17, 0) ((6 * p) + i1)) true)) ≤ (nI (((lq_it n (sp_86_4 fi p) 0) - 1) / 2)) then s1 else ((fi (21, 17, 0) ((6 * p) + i1)).toInt64)))) (by unfold sp_86_60; all_goals rfl) _
      · intro u6
        show xm_G E (d + 2) true 86 60 [some (xm_r (20, 0, 0)), some (xm_i (nI p)), some (xm_i (nI (lq_it n (sp_86_4 fi p) 0))), some (xm_l (lq_it n (sp_86_60 n fi p) (0 : Int64))), none, some (xm_i (nI n)), u6, none, none, none, none, none] [] (c, (xm_up fi (21, 19, 0) p (bI (if (nI (lq_it n (sp_86_4 fi p) 0)) ≤ 0 then false else true))), fl, r) R
        refine pg_86_60 rfl ?_
        refine pg_86_62 rfl ?_
        refine pg_86_63 (sk20 hs) ?_
        refine go_top (y := nI n) (fz_kp hf (kp_up (kp_re [2112, 2113, 2119, 2120] fi) rfl) rfl rfl rfl).2 ?_
        refine pg_86_66 (fun _ => ?_) (fun hc => absurd (nx_le (a := n) (b := n) rfl rfl (by omega) (by omega)) hc)
        refine pg_86_139 rfl ?_
        refine pg_86_140 (sk20 hs) ?_
        refine go_top (y := (fi (20, 0, 0) 4)) (by simp [xm_up]) ?_
        refine pg_86_143 ?_
        refine pg_86_144 rfl ?_
        refine pg_86_145 ?_
        refine pg_86_146 ?_
        refine pg_86_149 ?_
        refine pg_86_152 (Nat.le_of_ble_eq_true rfl) (ct_89 (v := (((fi (20, 0, 0) 4).toInt64) - (lq_it n (sp_86_60 n fi p) (0 : Int64)))) (a := (-2147483648 : Int64)) (b := (2147483647 : Int64))) ?_
        refine pg_86_155 (lv' := [some (xm_r (20, 0, 0)), some (xm_i (nI p)), some (xm_i (nI (lq_it n (sp_86_4 fi p) 0))), some (xm_l (lq_it n (sp_86_60 n fi p) (0 : Int64))), none, some (xm_l (sp_86_e n fi p)), none, none, none, none, none, none]) rfl ?_
        refine pg_86_157 rfl ?_
        refine pg_86_158 (sk20 hs) (sr20_12 hs) ?_
        refine pg_86_161 rfl ?_
        refine pg_86_162 (Or.inl (sk21_12 hs)) (i := p) rfl (by omega) (by omega) ?_
        refine go_top (y := (fi (21, 12, 0) p)) (by simp [xm_up]) ?_
        refine pg_86_163 ?_
        refine pg_86_164 rfl ?_
        refine pg_86_165 (sk20 hs) ?_
        refine go_top (y := (fi (20, 0, 0) 6)) (by simp [xm_up]) ?_
        refine pg_86_168 ?_
        refine pg_86_169 rfl ?_
        refine pg_86_171 ?_
        refine pg_86_172 ?_
        refine pg_86_174 ?_
        refine pg_86_175 ?_
        refine pg_86_176 ?_
        refine pg_86_179 ?_
        refine pg_86_182 (Nat.le_of_ble_eq_true rfl) (ct_89 (v := (((fi (21, 12, 0) p).toInt64) + ((((fi (20, 0, 0) 6).toInt64) * (sp_86_e n fi p)) >>> ((16 : Int32).toInt64 &&& 63)))) (a := (-16777216 : Int64)) (b := (16777216 : Int64))) ?_
        refine pg_86_185 (lv' := [some (xm_r (20, 0, 0)), some (xm_i (nI p)), some (xm_i (nI (lq_it n (sp_86_4 fi p) 0))), some (xm_l (lq_it n (sp_86_60 n fi p) (0 : Int64))), none, some (xm_l (sp_86_e n fi p)), none, some (xm_l (sp_86_i n fi p)), none, none, none, none]) rfl ?_
        refine pg_86_187 rfl ?_
        refine pg_86_188 (sk20 hs) ?_
        refine go_top (y := (fi (20, 0, 0) 5)) (by simp [xm_up]) ?_
        refine pg_86_191 ?_
        refine pg_86_192 rfl ?_
        refine pg_86_194 ?_
        refine pg_86_195 ?_
        refine pg_86_197 ?_
        refine pg_86_198 rfl ?_
        refine pg_86_200 ?_
        refine pg_86_201 rfl ?_
        refine pg_86_202 (sk20 hs) ?_
        refine go_top (y := (fi (20, 0, 0) 7)) (by simp [xm_up]) ?_
        refine pg_86_205 ?_
        refine pg_86_206 rfl ?_
        refine pg_86_208 rfl ?_
        refine pg_86_209 (sk20 hs) (sr20_13 hs) ?_
        refine pg_86_212 rfl ?_
        refine pg_86_213 (Or.inl (sk21_13 hs)) (i := p) rfl (by omega) (by omega) ?_
        refine go_top (y := (fi (21, 13, 0) p)) (by simp [xm_up]) ?_
        refine pg_86_214 ?_
        refine pg_86_215 ?_
        refine pg_86_216 ?_
        refine pg_86_217 ?_
        refine pg_86_219 ?_
        refine pg_86_220 ?_
        refine pg_86_221 (lv' := [some (xm_r (20, 0, 0)), some (xm_i (nI p)), some (xm_i (nI (lq_it n (sp_86_4 fi p) 0))), some (xm_l (lq_it n (sp_86_60 n fi p) (0 : Int64))), none, some (xm_l (sp_86_e n fi p)), none, some (xm_l (sp_86_i n fi p)), none, some (xm_l (sp_86_u n fi p)), none, none]) rfl ?_
        refine pg_86_223 rfl ?_
        refine pg_86_224 (sk20 hs) (sr20_20 hs) ?_
        refine pg_86_227 rfl ?_
        refine pg_86_228 rfl ?_
        refine pg_86_230 ?_
        refine pg_86_233 ?_
        refine pg_86_236 (Nat.le_of_ble_eq_true rfl) (ct_89 (v := (sp_86_u n fi p)) (a := (-16777216 : Int64)) (b := (16777216 : Int64))) ?_
        refine pg_86_239 ?_
        refine pg_86_240 (sk21_20 hs) (i := p) rfl (by omega) (by omega) ?_
        refine pg_86_241 rfl ?_
        refine pg_86_243 ?_
        refine pg_86_246 ?_
        suffices KJ : xm_G E (d + 2) true 86 278 [some (xm_r (20, 0, 0)), some (xm_i (nI p)), some (xm_i (nI (lq_it n (sp_86_4 fi p) 0))), some (xm_l (lq_it n (sp_86_60 n fi p) (0 : Int64))), none, some (xm_l (sp_86_e n fi p)), none, some (xm_l (sp_86_i n fi p)), none, some (xm_l (sp_86_u n fi p)), none, none] [xm_i (bI (if (lg_cmp (sp_86_u n fi p) (16777216 : Int64)) ≤ 0 then (if 0 ≤ (lg_cmp (sp_86_u n fi p) (-16777216 : Int64)) then false else (if 0 ≤ (lg_cmp (sp_86_e n fi p) (0 : Int64)) then false else true)) else (if 0 < (lg_cmp (sp_86_e n fi p) (0 : Int64)) then true else (if 0 ≤ (lg_cmp (sp_86_u n fi p) (-16777216 : Int64)) then false else (if 0 ≤ (lg_cmp (sp_86_e n fi p) (0 : Int64)) then false else true)))))] (c, (xm_up (xm_up fi (21, 19, 0) p (bI (if (nI (lq_it n (sp_86_4 fi p) 0)) ≤ 0 then false else true))) (21, 20, 0) p ((sp_89 (sp_86_u n fi p) (-16777216 : Int64) (16777216 : Int64)).toInt32)), fl, r) R by
          refine pg_86_247 (fun hc15 => ?_) (fun hc16 => ?_)
          · refine pg_86_257 rfl ?_
            refine pg_86_259 ?_
            refine pg_86_262 ?_
            refine pg_86_263 (fun hc17 => ?_) (fun hc18 => ?_)
            · refine pg_86_277 ?_
              repeat rw [if_pos hc15] at KJ
              repeat rw [if_pos hc17] at KJ
              repeat rw [if_pos hc15]
              repeat rw [if_pos hc17]
              exact KJ
            · refine pg_86_266 rfl ?_
              refine pg_86_268 ?_
              refine pg_86_269 ?_
              refine pg_86_270 (fun hc19 => ?_) (fun hc20 => ?_)
              · refine pg_86_277 ?_
                repeat rw [if_pos hc15] at KJ
                repeat rw [if_neg hc18] at KJ
                repeat rw [if_pos hc19] at KJ
                repeat rw [if_pos hc15]
                repeat rw [if_neg hc18]
                repeat rw [if_pos hc19]
                exact KJ
              · refine pg_86_273 ?_
                refine pg_86_274 ?_
                repeat rw [if_pos hc15] at KJ
                repeat rw [if_neg hc18] at KJ
                repeat rw [if_neg hc20] at KJ
                repeat rw [if_pos hc15]
                repeat rw [if_neg hc18]
                repeat rw [if_neg hc20]
                exact KJ
          · refine pg_86_250 rfl ?_
            refine pg_86_252 ?_
            refine pg_86_253 ?_
            refine pg_86_254 (fun hc21 => ?_) (fun hc22 => ?_)
            · refine pg_86_273 ?_
              refine pg_86_274 ?_
              repeat rw [if_neg hc16] at KJ
              repeat rw [if_pos hc21] at KJ
              repeat rw [if_neg hc16]
              repeat rw [if_pos hc21]
              exact KJ
            · refine pg_86_257 rfl ?_
              refine pg_86_259 ?_
              refine pg_86_262 ?_
              refine pg_86_263 (fun hc23 => ?_) (fun hc24 => ?_)
              · refine pg_86_277 ?_
                repeat rw [if_neg hc16] at KJ
                repeat rw [if_neg hc22] at KJ
                repeat rw [if_pos hc23] at KJ
                repeat rw [if_neg hc16]
                repeat rw [if_neg hc22]
                repeat rw [if_pos hc23]
                exact KJ
              · refine pg_86_266 rfl ?_
                refine pg_86_268 ?_
                refine pg_86_269 ?_
                refine pg_86_270 (fun hc25 => ?_) (fun hc26 => ?_)
                · refine pg_86_277 ?_
                  repeat rw [if_neg hc16] at KJ
                  repeat rw [if_neg hc22] at KJ
                  repeat rw [if_neg hc24] at KJ
                  repeat rw [if_pos hc25] at KJ
                  repeat rw [if_neg hc16]
                  repeat rw [if_neg hc22]
                  repeat rw [if_neg hc24]
                  repeat rw [if_pos hc25]
                  exact KJ
                · refine pg_86_273 ?_
                  refine pg_86_274 ?_
                  repeat rw [if_neg hc16] at KJ
                  repeat rw [if_neg hc22] at KJ
                  repeat rw [if_neg hc24] at KJ
                  repeat rw [if_neg hc26] at KJ
                  repeat rw [if_neg hc16]
                  repeat rw [if_neg hc22]
                  repeat rw [if_neg hc24]
                  repeat rw [if_neg hc26]
                  exact KJ
        refine pg_86_278 (lv' := [some (xm_r (20, 0, 0)), some (xm_i (nI p)), some (xm_i (nI (lq_it n (sp_86_4 fi p) 0))), some (xm_l (lq_it n (sp_86_60 n fi p) (0 : Int64))), none, some (xm_l (sp_86_e n fi p)), none, some (xm_l (sp_86_i n fi p)), none, some (xm_l (sp_86_u n fi p)), none, some (xm_i (bI (if (lg_cmp (sp_86_u n fi p) (16777216 : Int64)) ≤ 0 then (if 0 ≤ (lg_cmp (sp_86_u n fi p) (-16777216 : Int64)) then false else (if 0 ≤ (lg_cmp (sp_86_e n fi p) (0 : Int64)) then false else true)) else (if 0 < (lg_cmp (sp_86_e n fi p) (0 : Int64)) then true else (if 0 ≤ (lg_cmp (sp_86_u n fi p) (-16777216 : Int64)) then false else (if 0 ≤ (lg_cmp (sp_86_e n fi p) (0 : Int64)) then false else true))))))]) rfl ?_
        refine pg_86_280 rfl ?_
        refine pg_86_281 (sk20 hs) (sr20_12 hs) ?_
        refine pg_86_284 rfl ?_
        refine pg_86_285 rfl ?_
        suffices KJ : xm_G E (d + 2) true 86 302 [some (xm_r (20, 0, 0)), some (xm_i (nI p)), some (xm_i (nI (lq_it n (sp_86_4 fi p) 0))), some (xm_l (lq_it n (sp_86_60 n fi p) (0 : Int64))), none, some (xm_l (sp_86_e n fi p)), none, some (xm_l (sp_86_i n fi p)), none, some (xm_l (sp_86_u n fi p)), none, some (xm_i (bI (if (lg_cmp (sp_86_u n fi p) (16777216 : Int64)) ≤ 0 then (if 0 ≤ (lg_cmp (sp_86_u n fi p) (-16777216 : Int64)) then false else (if 0 ≤ (lg_cmp (sp_86_e n fi p) (0 : Int64)) then false else true)) else (if 0 < (lg_cmp (sp_86_e n fi p) (0 : Int64)) then true else (if 0 ≤ (lg_cmp (sp_86_u n fi p) (-16777216 : Int64)) then false else (if 0 ≤ (lg_cmp (sp_86_e n fi p) (0 : Int64)) then false else true))))))] [xm_i (if (bI (if (lg_cmp (sp_86_u n fi p) (16777216 : Int64)) ≤ 0 then (if 0 ≤ (lg_cmp (sp_86_u n fi p) (-16777216 : Int64)) then false else (if 0 ≤ (lg_cmp (sp_86_e n fi p) (0 : Int64)) then false else true)) else (if 0 < (lg_cmp (sp_86_e n fi p) (0 : Int64)) then true else (if 0 ≤ (lg_cmp (sp_86_u n fi p) (-16777216 : Int64)) then false else (if 0 ≤ (lg_cmp (sp_86_e n fi p) (0 : Int64)) then false else true))))) = 0 then ((sp_86_i n fi p).toInt32) else (fi (21, 12, 0) p)), xm_i (nI p), xm_r (21, 12, 0)] (c, (xm_up (xm_up fi (21, 19, 0) p (bI (if (nI (lq_it n (sp_86_4 fi p) 0)) ≤ 0 then false else true))) (21, 20, 0) p ((sp_89 (sp_86_u n fi p) (-16777216 : Int64) (16777216 : Int64)).toInt32)), fl, r) R by
          refine pg_86_287 (fun hc27 => ?_) (fun hc28 => ?_)
          · refine pg_86_299 rfl ?_
            refine pg_86_301 ?_
            repeat rw [if_pos hc27] at KJ
            repeat rw [if_pos hc27]
            exact KJ
          · refine pg_86_290 rfl ?_
            refine pg_86_291 (sk20 hs) (sr20_12 hs) ?_
            refine pg_86_294 rfl ?_
            refine pg_86_295 (Or.inl (sk21_12 hs)) (i := p) rfl (by omega) (by omega) ?_
            refine go_top (y := (fi (21, 12, 0) p)) (by simp [xm_up]) ?_
            refine pg_86_296 ?_
            repeat rw [if_neg hc28] at KJ
            repeat rw [if_neg hc28]
            exact KJ
        refine pg_86_302 (sk21_12 hs) (i := p) rfl (by omega) (by omega) ?_
        refine pg_86_303 rfl ?_
        refine pg_86_304 (sk20 hs) (sr20_13 hs) ?_
        refine pg_86_307 rfl ?_
        refine pg_86_308 rfl ?_
        refine pg_86_310 ?_
        refine pg_86_311 (sk21_13 hs) (i := p) rfl (by omega) (by omega) ?_
        exact go_eq (hR.symm.trans (by unfold sp_86; try rw [if_neg hc6]; all_goals rfl)) (pg_86_312)
    · exact go_eq (hR.symm.trans (by unfold sp_86; try rw [if_pos hc7]; all_goals rfl)) (pg_86_54)
-- 90: Model.keepList
def sp_90_2 (p : Nat) (i1 : Nat) (s1 : FI) : FI := if (if (bI (if (s1 (21, 14, 0) ((6 * p) + i1)) = (s1 (21, 16, 0) ((6 * p) + i1)) then false else true)) = 0 then (0 : Int32) else ((s1 (21, 15, 0) ((6 * p) + i1)) + (1 : Int32))) < (if (s1 (21, 14, 0) ((6 * p) + i1)) = 0 then (2 : Int32) else (s1 (20, 0, 0) 2)) then ((xm_up s1 (21, 15, 0) ((6 * p) + i1) (if (bI (if (s1 (21, 14, 0) ((6 * p) + i1)) = (s1 (21, 16, 0) ((6 * p) + i1)) then false else true)) = 0 then (0 : Int32) else ((s1 (21, 15, 0) ((6 * p) + i1)) + (1 : Int32))))) else ((xm_up (xm_up (xm_up s1 (21, 15, 0) ((6 * p) + i1) (if (bI (if (s1 (21, 14, 0) ((6 * p) + i1)) = (s1 (21, 16, 0) ((6 * p) + i1)) then false else true)) = 0 then (0 : Int32) else ((s1 (21, 15, 0) ((6 * p) + i1)) + (1 : Int32)))) (21, 14, 0) ((6 * p) + i1) (bI (if (s1 (21, 14, 0) ((6 * p) + i1)) = 0 then true else false))) (21, 15, 0) ((6 * p) + i1) (0 : Int32)))
theorem kp_sp_90_2 (p : Nat) (i1 : Nat) (s1 : FI) : kp [2114, 2115] s1 (sp_90_2 p i1 s1) := by
  unfold sp_90_2
  rcases Classical.em ((if (bI (if (s1 (21, 14, 0) ((6 * p) + i1)) = (s1 (21, 16, 0) ((6 * p) + i1)) then false else true)) = 0 then (0 : Int32) else ((s1 (21, 15, 0) ((6 * p) + i1)) + (1 : Int32))) < (if (s1 (21, 14, 0) ((6 * p) + i1)) = 0 then (2 : Int32) else (s1 (20, 0, 0) 2))) with hc | hc
  · (try rw [if_pos hc])
    exact (kp_up (kp_re [2114, 2115] s1) rfl)
  · (try rw [if_neg hc])
    exact (kp_up (kp_up (kp_up (kp_re [2114, 2115] s1) rfl) rfl) rfl)
def sp_90 (n : Nat) (fi : FI) (p : Nat) : FI := (lq_it n (sp_90_2 p) fi)
theorem kp_sp_90 (n : Nat) (fi : FI) (p : Nat) : kp [2114, 2115] fi (sp_90 n fi p) := by
  unfold sp_90
  exact (kp_tr (kp_re [2114, 2115] fi) rfl (kp_it (L := [2114, 2115]) (p := fun (s : FI) => s) (N := n) (F := sp_90_2 p) (s0 := fi) (kp_re [2114, 2115] fi) (fun i s => kp_sp_90_2 p i s)))
set_option maxRecDepth 4000 in
theorem ct_90 {n : Nat} {E : xm_E} {c : Nat × Nat} {fi : FI} {fl : FL} {r : xm_I → Nat → Option xm_I} {d : Nat} {p : Nat} (hs : sh n E c r) (hp : p < n) (hf : fz n fi) : xm_C E (d + 1) true 90 [xm_r (20, 0, 0), xm_i (nI p)] (c, fi, fl, r) (.inl (none), (c, (sp_90 n fi p), fl, r)) := by
  have hn := sh_n hs
  suffices key : ∀ R : xm_O, ((.inl (none), (c, (sp_90 n fi p), fl, r)) : xm_O) = R → xm_G E (d + 0) true 90 0 [some (xm_r (20, 0, 0)), some (xm_i (nI p)), none, none, none] [] (c, fi, fl, r) R from go_inr (by decide) (Nat.le_of_ble_eq_true rfl) (key _ rfl)
  intro R hR
  refine pg_90_0 ?_
  refine pg_90_1 (lv' := [some (xm_r (20, 0, 0)), some (xm_i (nI p)), some (xm_i (0 : Int32)), none, none]) rfl ?_
  refine (lq_li (N := n) (f := sp_90_2 p) (s0 := fi) (P := fun i1 s1 => ∀ u3 : Option xm_V, ∀ u4 : Option xm_V, xm_G E (d + 0) true 90 2 [some (xm_r (20, 0, 0)), some (xm_i (nI p)), some (xm_i (nI i1)), u3, u4] [] (c, s1, fl, r) R) (I := fun i1 s1 => kp [2114, 2115] fi s1) (kp_re [2114, 2115] _) (fun i1 s1 hi1 hk1 => kp_tr hk1 rfl (kp_sp_90_2 p i1 s1)) ?_ ?_) _ _
  · intro i1 s1 hi1 hk1 K1 u3 u4
    show xm_G E (d + 0) true 90 2 [some (xm_r (20, 0, 0)), some (xm_i (nI p)), some (xm_i (nI i1)), u3, u4] [] (c, s1, fl, r) R
    refine pg_90_2 rfl ?_
    refine pg_90_3 rfl ?_
    refine pg_90_4 (sk20 hs) ?_
    refine go_top (y := nI n) (fz_kp hf (kp_tr (kp_tr (kp_re [2114, 2115] fi) rfl hk1) rfl (kp_re [2114, 2115] s1)) rfl rfl rfl).2 ?_
    refine pg_90_7 (fun hc => absurd hc (nx_nle (a := i1) (b := n) rfl rfl (by omega) (by omega))) (fun _ => ?_)
    refine pg_90_10 ?_
    refine pg_90_12 rfl ?_
    refine pg_90_13 ?_
    refine go_top (y := nI (6 * p)) (nx_mul (rfl : (6 : Int32) = nI 6) rfl) ?_
    refine pg_90_14 rfl ?_
    refine pg_90_15 ?_
    refine go_top (y := nI ((6 * p) + i1)) (nx_add rfl rfl) ?_
    refine pg_90_16 (lv' := [some (xm_r (20, 0, 0)), some (xm_i (nI p)), some (xm_i (nI i1)), some (xm_i (nI ((6 * p) + i1))), u4]) rfl ?_
    refine pg_90_17 rfl ?_
    refine pg_90_18 (sk20 hs) (sr20_14 hs) ?_
    refine pg_90_21 rfl ?_
    refine pg_90_22 (sk21_14 hs) (i := ((6 * p) + i1)) rfl (by omega) (by omega) ?_
    refine pg_90_23 rfl ?_
    refine pg_90_24 (sk20 hs) (sr20_16 hs) ?_
    refine pg_90_27 rfl ?_
    refine pg_90_28 (sk21_16 hs) (i := ((6 * p) + i1)) rfl (by omega) (by omega) ?_
    suffices KJ : xm_G E (d + 0) true 90 37 [some (xm_r (20, 0, 0)), some (xm_i (nI p)), some (xm_i (nI i1)), some (xm_i (nI ((6 * p) + i1))), u4] [xm_i (bI (if (s1 (21, 14, 0) ((6 * p) + i1)) = (s1 (21, 16, 0) ((6 * p) + i1)) then false else true))] (c, s1, fl, r) R by
      refine pg_90_29 (fun hc1 => ?_) (fun hc2 => ?_)
      · refine pg_90_36 ?_
        repeat rw [if_pos hc1] at KJ
        repeat rw [if_pos hc1]
        exact KJ
      · refine pg_90_32 ?_
        refine pg_90_33 ?_
        repeat rw [if_neg hc2] at KJ
        repeat rw [if_neg hc2]
        exact KJ
    refine pg_90_37 (lv' := [some (xm_r (20, 0, 0)), some (xm_i (nI p)), some (xm_i (nI i1)), some (xm_i (nI ((6 * p) + i1))), some (xm_i (bI (if (s1 (21, 14, 0) ((6 * p) + i1)) = (s1 (21, 16, 0) ((6 * p) + i1)) then false else true)))]) rfl ?_
    refine pg_90_39 rfl ?_
    refine pg_90_40 (sk20 hs) (sr20_15 hs) ?_
    refine pg_90_43 rfl ?_
    refine pg_90_44 rfl ?_
    suffices KJ : xm_G E (d + 0) true 90 61 [some (xm_r (20, 0, 0)), some (xm_i (nI p)), some (xm_i (nI i1)), some (xm_i (nI ((6 * p) + i1))), some (xm_i (bI (if (s1 (21, 14, 0) ((6 * p) + i1)) = (s1 (21, 16, 0) ((6 * p) + i1)) then false else true)))] [xm_i (if (bI (if (s1 (21, 14, 0) ((6 * p) + i1)) = (s1 (21, 16, 0) ((6 * p) + i1)) then false else true)) = 0 then (0 : Int32) else ((s1 (21, 15, 0) ((6 * p) + i1)) + (1 : Int32))), xm_i (nI ((6 * p) + i1)), xm_r (21, 15, 0)] (c, s1, fl, r) R by
      refine pg_90_46 (fun hc3 => ?_) (fun hc4 => ?_)
      · refine pg_90_60 ?_
        repeat rw [if_pos hc3] at KJ
        repeat rw [if_pos hc3]
        exact KJ
      · refine pg_90_49 rfl ?_
        refine pg_90_50 (sk20 hs) (sr20_15 hs) ?_
        refine pg_90_53 rfl ?_
        refine pg_90_54 (Or.inl (sk21_15 hs)) (i := ((6 * p) + i1)) rfl (by omega) (by omega) ?_
        refine pg_90_55 ?_
        refine pg_90_56 ?_
        refine pg_90_57 ?_
        repeat rw [if_neg hc4] at KJ
        repeat rw [if_neg hc4]
        exact KJ
    refine pg_90_61 (sk21_15 hs) (i := ((6 * p) + i1)) rfl (by omega) (by omega) ?_
    refine pg_90_62 rfl ?_
    refine pg_90_63 (sk20 hs) (sr20_15 hs) ?_
    refine pg_90_66 rfl ?_
    refine pg_90_67 (Or.inl (sk21_15 hs)) (i := ((6 * p) + i1)) rfl (by omega) (by omega) ?_
    refine go_top (y := (if (bI (if (s1 (21, 14, 0) ((6 * p) + i1)) = (s1 (21, 16, 0) ((6 * p) + i1)) then false else true)) = 0 then (0 : Int32) else ((s1 (21, 15, 0) ((6 * p) + i1)) + (1 : Int32)))) (by simp [xm_up]) ?_
    refine pg_90_68 rfl ?_
    refine pg_90_69 (sk20 hs) (sr20_14 hs) ?_
    refine pg_90_72 rfl ?_
    refine pg_90_73 (sk21_14 hs) (i := ((6 * p) + i1)) rfl (by omega) (by omega) ?_
    refine go_top (y := (s1 (21, 14, 0) ((6 * p) + i1))) (by simp [xm_up]) ?_
    suffices KJ : xm_G E (d + 0) true 90 85 [some (xm_r (20, 0, 0)), some (xm_i (nI p)), some (xm_i (nI i1)), some (xm_i (nI ((6 * p) + i1))), some (xm_i (bI (if (s1 (21, 14, 0) ((6 * p) + i1)) = (s1 (21, 16, 0) ((6 * p) + i1)) then false else true)))] [xm_i (if (s1 (21, 14, 0) ((6 * p) + i1)) = 0 then (2 : Int32) else (s1 (20, 0, 0) 2)), xm_i (if (bI (if (s1 (21, 14, 0) ((6 * p) + i1)) = (s1 (21, 16, 0) ((6 * p) + i1)) then false else true)) = 0 then (0 : Int32) else ((s1 (21, 15, 0) ((6 * p) + i1)) + (1 : Int32)))] (c, (xm_up s1 (21, 15, 0) ((6 * p) + i1) (if (bI (if (s1 (21, 14, 0) ((6 * p) + i1)) = (s1 (21, 16, 0) ((6 * p) + i1)) then false else true)) = 0 then (0 : Int32) else ((s1 (21, 15, 0) ((6 * p) + i1)) + (1 : Int32)))), fl, r) R by
      refine pg_90_74 (fun hc5 => ?_) (fun hc6 => ?_)
      · refine pg_90_84 ?_
        repeat rw [if_pos hc5] at KJ
        repeat rw [if_pos hc5]
        exact KJ
      · refine pg_90_77 rfl ?_
        refine pg_90_78 (sk20 hs) ?_
        refine go_top (y := (s1 (20, 0, 0) 2)) (by simp [xm_up]) ?_
        refine pg_90_81 ?_
        repeat rw [if_neg hc6] at KJ
        repeat rw [if_neg hc6]
        exact KJ
    refine pg_90_85 (fun hc7 => ?_) (fun hc8 => ?_)
    · refine pg_90_115 (y := (nI (i1 + 1))) (lv' := [some (xm_r (20, 0, 0)), some (xm_i (nI p)), some (xm_i (nI (i1 + 1))), some (xm_i (nI ((6 * p) + i1))), some (xm_i (bI (if (s1 (21, 14, 0) ((6 * p) + i1)) = (s1 (21, 16, 0) ((6 * p) + i1)) then false else true)))]) rfl (nI_1 i1) rfl ?_
      refine pg_90_118 ?_
      exact K1 (xm_up s1 (21, 15, 0) ((6 * p) + i1) (if (bI (if (s1 (21, 14, 0) ((6 * p) + i1)) = (s1 (21, 16, 0) ((6 * p) + i1)) then false else true)) = 0 then (0 : Int32) else ((s1 (21, 15, 0) ((6 * p) + i1)) + (1 : Int32)))) (by unfold sp_90_2; try rw [if_pos hc7]; all_goals rfl) _ _
    · refine pg_90_88 rfl ?_
      refine pg_90_89 (sk20 hs) (sr20_14 hs) ?_
      refine pg_90_92 rfl ?_
      refine pg_90_93 rfl ?_
      refine pg_90_94 (sk20 hs) (sr20_14 hs) ?_
      refine pg_90_97 rfl ?_
      refine pg_90_98 (sk21_14 hs) (i := ((6 * p) + i1)) rfl (by omega) (by omega) ?_
      refine go_top (y := (s1 (21, 14, 0) ((6 * p) + i1))) (by simp [xm_up]) ?_
      suffices KJ : xm_G E (d + 0) true 90 107 [some (xm_r (20, 0, 0)), some (xm_i (nI p)), some (xm_i (nI i1)), some (xm_i (nI ((6 * p) + i1))), some (xm_i (bI (if (s1 (21, 14, 0) ((6 * p) + i1)) = (s1 (21, 16, 0) ((6 * p) + i1)) then false else true)))] [xm_i (bI (if (s1 (21, 14, 0) ((6 * p) + i1)) = 0 then true else false)), xm_i (nI ((6 * p) + i1)), xm_r (21, 14, 0)] (c, (xm_up s1 (21, 15, 0) ((6 * p) + i1) (if (bI (if (s1 (21, 14, 0) ((6 * p) + i1)) = (s1 (21, 16, 0) ((6 * p) + i1)) then false else true)) = 0 then (0 : Int32) else ((s1 (21, 15, 0) ((6 * p) + i1)) + (1 : Int32)))), fl, r) R by
        refine pg_90_99 (fun hc9 => ?_) (fun hc10 => ?_)
        · refine pg_90_106 ?_
          repeat rw [if_neg hc9] at KJ
          repeat rw [if_neg hc9]
          exact KJ
        · refine pg_90_102 ?_
          refine pg_90_103 ?_
          repeat rw [if_pos hc10] at KJ
          repeat rw [if_pos hc10]
          exact KJ
      refine pg_90_107 (sk21_14 hs) (i := ((6 * p) + i1)) rfl (by omega) (by omega) (bI_01 _) ?_
      refine pg_90_108 rfl ?_
      refine pg_90_109 (sk20 hs) (sr20_15 hs) ?_
      refine pg_90_112 rfl ?_
      refine pg_90_113 ?_
      refine pg_90_114 (sk21_15 hs) (i := ((6 * p) + i1)) rfl (by omega) (by omega) ?_
      refine pg_90_115 (y := (nI (i1 + 1))) (lv' := [some (xm_r (20, 0, 0)), some (xm_i (nI p)), some (xm_i (nI (i1 + 1))), some (xm_i (nI ((6 * p) + i1))), some (xm_i (bI (if (s1 (21, 14, 0) ((6 * p) + i1)) = (s1 (21, 16, 0) ((6 * p) + i1)) then false else true)))]) rfl (nI_1 i1) rfl ?_
      refine pg_90_118 ?_
      exact K1 (xm_up (xm_up (xm_up s1 (21, 15, 0) ((6 * p) + i1) (if (bI (if (s1 (21, 14, 0) ((6 * p) + i1)) = (s1 (21, 16, 0) ((6 * p) + i1)) then false else true)) = 0 then (0 : Int32) else ((s1 (21, 15, 0) ((6 * p) + i1)) + (1 : Int32)))) (21, 14, 0) ((6 * p) + i1) (bI (if (s1 (21, 14, 0) ((6 * p) + i1)) = 0 then true else false))) (21, 15, 0) ((6 * p) + i1) (0 : Int32)) (by unfold sp_90_2; try rw [if_neg hc8]; all_goals rfl) _ _
  · intro hd1x11 u3 u4
    show xm_G E (d + 0) true 90 2 [some (xm_r (20, 0, 0)), some (xm_i (nI p)), some (xm_i (nI n)), u3, u4] [] (c, (lq_it n (sp_90_2 p) fi), fl, r) R
    refine pg_90_2 rfl ?_
    refine pg_90_3 rfl ?_
    refine pg_90_4 (sk20 hs) ?_
    refine go_top (y := nI n) (fz_kp hf (kp_tr (kp_re [2114, 2115] fi) rfl (kp_it (L := [2114, 2115]) (p := fun (s : FI) => s) (N := n) (F := sp_90_2 p) (s0 := fi) (kp_re [2114, 2115] fi) (fun i s => kp_sp_90_2 p i s))) rfl rfl rfl).2 ?_
    refine pg_90_7 (fun _ => ?_) (fun hc => absurd (nx_le (a := n) (b := n) rfl rfl (by omega) (by omega)) hc)
    exact go_eq (hR.symm.trans (by unfold sp_90; all_goals rfl)) (pg_90_121)
-- 91: Model.sendCommands
def sp_91_7 (n : Nat) (i1 : Nat) (s1 : FI × FL) : FI × FL := if (s1.1 (21, 19, 0) i1) = 0 then ((s1.1, s1.2)) else (((sp_84 (sp_79 ((sp_75 ((sp_72 s1.1 i1 (3 : Int32) (s1.1 (21, 20, 0) i1)).2) s1.2 i1 (nI n) ((sp_72 s1.1 i1 (3 : Int32) (s1.1 (21, 20, 0) i1)).1)).1) n (bI (sp_76 ((sp_75 ((sp_72 s1.1 i1 (3 : Int32) (s1.1 (21, 20, 0) i1)).2) s1.2 i1 (nI n) ((sp_72 s1.1 i1 (3 : Int32) (s1.1 (21, 20, 0) i1)).1)).1) ((sp_75 ((sp_72 s1.1 i1 (3 : Int32) (s1.1 (21, 20, 0) i1)).2) s1.2 i1 (nI n) ((sp_72 s1.1 i1 (3 : Int32) (s1.1 (21, 20, 0) i1)).1)).2) (nI i1) (3 : Int32)))) (bI (sp_76 ((sp_75 ((sp_72 s1.1 i1 (3 : Int32) (s1.1 (21, 20, 0) i1)).2) s1.2 i1 (nI n) ((sp_72 s1.1 i1 (3 : Int32) (s1.1 (21, 20, 0) i1)).1)).1) ((sp_75 ((sp_72 s1.1 i1 (3 : Int32) (s1.1 (21, 20, 0) i1)).2) s1.2 i1 (nI n) ((sp_72 s1.1 i1 (3 : Int32) (s1.1 (21, 20, 0) i1)).1)).2) (nI i1) (3 : Int32))) (sp_78 ((sp_75 ((sp_72 s1.1 i1 (3 : Int32) (s1.1 (21, 20, 0) i1)).2) s1.2 i1 (nI n) ((sp_72 s1.1 i1 (3 : Int32) (s1.1 (21, 20, 0) i1)).1)).2)) (((sp_79 ((sp_75 ((sp_72 s1.1 i1 (3 : Int32) (s1.1 (21, 20, 0) i1)).2) s1.2 i1 (nI n) ((sp_72 s1.1 i1 (3 : Int32) (s1.1 (21, 20, 0) i1)).1)).1) n (bI (sp_76 ((sp_75 ((sp_72 s1.1 i1 (3 : Int32) (s1.1 (21, 20, 0) i1)).2) s1.2 i1 (nI n) ((sp_72 s1.1 i1 (3 : Int32) (s1.1 (21, 20, 0) i1)).1)).1) ((sp_75 ((sp_72 s1.1 i1 (3 : Int32) (s1.1 (21, 20, 0) i1)).2) s1.2 i1 (nI n) ((sp_72 s1.1 i1 (3 : Int32) (s1.1 (21, 20, 0) i1)).1)).2) (nI i1) (3 : Int32)))) (20, 0, 0) 36).toNatClampNeg)), ((sp_75 ((sp_72 s1.1 i1 (3 : Int32) (s1.1 (21, 20, 0) i1)).2) s1.2 i1 (nI n) ((sp_72 s1.1 i1 (3 : Int32) (s1.1 (21, 20, 0) i1)).1)).2)))
theorem kp_sp_91_7 (n : Nat) (i1 : Nat) (s1 : FI × FL) : kp [2023, 2025, 2036, 2124, 2137, 2138] s1.1 ((sp_91_7 n i1 s1).1) := by
  unfold sp_91_7
  rcases Classical.em ((s1.1 (21, 19, 0) i1) = 0) with hc | hc
  · (try rw [if_pos hc])
    exact (kp_re [2023, 2025, 2036, 2124, 2137, 2138] s1.1)
  · (try rw [if_neg hc])
    exact (kp_tr (kp_tr (kp_tr (kp_tr (kp_re [2023, 2025, 2036, 2124, 2137, 2138] s1.1) rfl (kp_sp_72 s1.1 i1 (3 : Int32) (s1.1 (21, 20, 0) i1))) rfl (kp_sp_75 ((sp_72 s1.1 i1 (3 : Int32) (s1.1 (21, 20, 0) i1)).2) s1.2 i1 (nI n) ((sp_72 s1.1 i1 (3 : Int32) (s1.1 (21, 20, 0) i1)).1))) rfl (kp_sp_79 ((sp_75 ((sp_72 s1.1 i1 (3 : Int32) (s1.1 (21, 20, 0) i1)).2) s1.2 i1 (nI n) ((sp_72 s1.1 i1 (3 : Int32) (s1.1 (21, 20, 0) i1)).1)).1) n (bI (sp_76 ((sp_75 ((sp_72 s1.1 i1 (3 : Int32) (s1.1 (21, 20, 0) i1)).2) s1.2 i1 (nI n) ((sp_72 s1.1 i1 (3 : Int32) (s1.1 (21, 20, 0) i1)).1)).1) ((sp_75 ((sp_72 s1.1 i1 (3 : Int32) (s1.1 (21, 20, 0) i1)).2) s1.2 i1 (nI n) ((sp_72 s1.1 i1 (3 : Int32) (s1.1 (21, 20, 0) i1)).1)).2) (nI i1) (3 : Int32))))) rfl (kp_sp_84 (sp_79 ((sp_75 ((sp_72 s1.1 i1 (3 : Int32) (s1.1 (21, 20, 0) i1)).2) s1.2 i1 (nI n) ((sp_72 s1.1 i1 (3 : Int32) (s1.1 (21, 20, 0) i1)).1)).1) n (bI (sp_76 ((sp_75 ((sp_72 s1.1 i1 (3 : Int32) (s1.1 (21, 20, 0) i1)).2) s1.2 i1 (nI n) ((sp_72 s1.1 i1 (3 : Int32) (s1.1 (21, 20, 0) i1)).1)).1) ((sp_75 ((sp_72 s1.1 i1 (3 : Int32) (s1.1 (21, 20, 0) i1)).2) s1.2 i1 (nI n) ((sp_72 s1.1 i1 (3 : Int32) (s1.1 (21, 20, 0) i1)).1)).2) (nI i1) (3 : Int32)))) (bI (sp_76 ((sp_75 ((sp_72 s1.1 i1 (3 : Int32) (s1.1 (21, 20, 0) i1)).2) s1.2 i1 (nI n) ((sp_72 s1.1 i1 (3 : Int32) (s1.1 (21, 20, 0) i1)).1)).1) ((sp_75 ((sp_72 s1.1 i1 (3 : Int32) (s1.1 (21, 20, 0) i1)).2) s1.2 i1 (nI n) ((sp_72 s1.1 i1 (3 : Int32) (s1.1 (21, 20, 0) i1)).1)).2) (nI i1) (3 : Int32))) (sp_78 ((sp_75 ((sp_72 s1.1 i1 (3 : Int32) (s1.1 (21, 20, 0) i1)).2) s1.2 i1 (nI n) ((sp_72 s1.1 i1 (3 : Int32) (s1.1 (21, 20, 0) i1)).1)).2)) (((sp_79 ((sp_75 ((sp_72 s1.1 i1 (3 : Int32) (s1.1 (21, 20, 0) i1)).2) s1.2 i1 (nI n) ((sp_72 s1.1 i1 (3 : Int32) (s1.1 (21, 20, 0) i1)).1)).1) n (bI (sp_76 ((sp_75 ((sp_72 s1.1 i1 (3 : Int32) (s1.1 (21, 20, 0) i1)).2) s1.2 i1 (nI n) ((sp_72 s1.1 i1 (3 : Int32) (s1.1 (21, 20, 0) i1)).1)).1) ((sp_75 ((sp_72 s1.1 i1 (3 : Int32) (s1.1 (21, 20, 0) i1)).2) s1.2 i1 (nI n) ((sp_72 s1.1 i1 (3 : Int32) (s1.1 (21, 20, 0) i1)).1)).2) (nI i1) (3 : Int32)))) (20, 0, 0) 36).toNatClampNeg)))
def sp_91 (n : Nat) (fi : FI) (fl : FL) : FI × FL := ((xm_up (xm_up ((sp_85 ((lq_it n (sp_91_7 n) ((xm_up fi (20, 0, 0) 36 (0 : Int32)), fl)).1) (nI n) ((((lq_it n (sp_91_7 n) ((xm_up fi (20, 0, 0) 36 (0 : Int32)), fl)).1) (20, 0, 0) 36).toNatClampNeg)).2) (20, 0, 0) 21 (if (bI ((sp_85 ((lq_it n (sp_91_7 n) ((xm_up fi (20, 0, 0) 36 (0 : Int32)), fl)).1) (nI n) ((((lq_it n (sp_91_7 n) ((xm_up fi (20, 0, 0) 36 (0 : Int32)), fl)).1) (20, 0, 0) 36).toNatClampNeg)).1)) = 0 then (0 : Int32) else (((sp_85 ((lq_it n (sp_91_7 n) ((xm_up fi (20, 0, 0) 36 (0 : Int32)), fl)).1) (nI n) ((((lq_it n (sp_91_7 n) ((xm_up fi (20, 0, 0) 36 (0 : Int32)), fl)).1) (20, 0, 0) 36).toNatClampNeg)).2) (20, 0, 0) 39))) (20, 0, 0) 22 (if (bI ((sp_85 ((lq_it n (sp_91_7 n) ((xm_up fi (20, 0, 0) 36 (0 : Int32)), fl)).1) (nI n) ((((lq_it n (sp_91_7 n) ((xm_up fi (20, 0, 0) 36 (0 : Int32)), fl)).1) (20, 0, 0) 36).toNatClampNeg)).1)) = 0 then ((((sp_85 ((lq_it n (sp_91_7 n) ((xm_up fi (20, 0, 0) 36 (0 : Int32)), fl)).1) (nI n) ((((lq_it n (sp_91_7 n) ((xm_up fi (20, 0, 0) 36 (0 : Int32)), fl)).1) (20, 0, 0) 36).toNatClampNeg)).2) (20, 0, 0) 22) + (1 : Int32)) else (((sp_85 ((lq_it n (sp_91_7 n) ((xm_up fi (20, 0, 0) 36 (0 : Int32)), fl)).1) (nI n) ((((lq_it n (sp_91_7 n) ((xm_up fi (20, 0, 0) 36 (0 : Int32)), fl)).1) (20, 0, 0) 36).toNatClampNeg)).2) (20, 0, 0) 22))), ((lq_it n (sp_91_7 n) ((xm_up fi (20, 0, 0) 36 (0 : Int32)), fl)).2))
theorem kp_sp_91 (n : Nat) (fi : FI) (fl : FL) : kp [2021, 2022, 2023, 2025, 2036, 2039, 2124, 2137, 2138] fi ((sp_91 n fi fl).1) := by
  unfold sp_91
  exact (kp_up (kp_up (kp_tr (kp_tr (kp_up (kp_re [2021, 2022, 2023, 2025, 2036, 2039, 2124, 2137, 2138] fi) rfl) rfl (kp_it (L := [2023, 2025, 2036, 2124, 2137, 2138]) (p := fun (s : FI × FL) => s.1) (N := n) (F := sp_91_7 n) (s0 := ((xm_up fi (20, 0, 0) 36 (0 : Int32)), fl)) (kp_re [2023, 2025, 2036, 2124, 2137, 2138] (xm_up fi (20, 0, 0) 36 (0 : Int32))) (fun i s => kp_sp_91_7 n i s))) rfl (kp_sp_85 ((lq_it n (sp_91_7 n) ((xm_up fi (20, 0, 0) 36 (0 : Int32)), fl)).1) (nI n) ((((lq_it n (sp_91_7 n) ((xm_up fi (20, 0, 0) 36 (0 : Int32)), fl)).1) (20, 0, 0) 36).toNatClampNeg))) rfl) rfl)
theorem vt_91_7 (n i1 : Nat) (s1 : FI × FL) (hi : i1 < 6) (h : vt i1 s1.1) : vt (i1 + 1) (sp_91_7 n i1 s1).1 := by
  unfold sp_91_7
  split
  · exact vt_mono h (by omega)
  · show vt (i1 + 1) (sp_84 _ _ _ _)
    refine vt_of (vt_84 _ _ _ _) ?_
    exact Nat.succ_le_succ (vt_get (vt_kp h (kp_tr (kp_tr (kp_tr (kp_re [2023, 2025, 2124, 2137, 2138] s1.1) rfl (kp_sp_72 s1.1 i1 (3 : Int32) (s1.1 (21, 20, 0) i1))) rfl (kp_sp_75 ((sp_72 s1.1 i1 (3 : Int32) (s1.1 (21, 20, 0) i1)).2) s1.2 i1 (nI n) ((sp_72 s1.1 i1 (3 : Int32) (s1.1 (21, 20, 0) i1)).1))) rfl (kp_sp_79 ((sp_75 ((sp_72 s1.1 i1 (3 : Int32) (s1.1 (21, 20, 0) i1)).2) s1.2 i1 (nI n) ((sp_72 s1.1 i1 (3 : Int32) (s1.1 (21, 20, 0) i1)).1)).1) n (bI (sp_76 ((sp_75 ((sp_72 s1.1 i1 (3 : Int32) (s1.1 (21, 20, 0) i1)).2) s1.2 i1 (nI n) ((sp_72 s1.1 i1 (3 : Int32) (s1.1 (21, 20, 0) i1)).1)).1) ((sp_75 ((sp_72 s1.1 i1 (3 : Int32) (s1.1 (21, 20, 0) i1)).2) s1.2 i1 (nI n) ((sp_72 s1.1 i1 (3 : Int32) (s1.1 (21, 20, 0) i1)).1)).2) (nI i1) (3 : Int32))))) rfl) (by omega)).2
set_option maxRecDepth 4000 in
theorem ct_91 {n : Nat} {E : xm_E} {c : Nat × Nat} {fi : FI} {fl : FL} {r : xm_I → Nat → Option xm_I} {d : Nat} (hs : sh n E c r) (hf : fz n fi) : xm_C E (d + 4) true 91 [xm_r (20, 0, 0)] (c, fi, fl, r) (.inl (none), (c, (sp_91 n fi fl).1, (sp_91 n fi fl).2, r)) := by
  have hn := sh_n hs
  suffices key : ∀ R : xm_O, ((.inl (none), (c, (sp_91 n fi fl).1, (sp_91 n fi fl).2, r)) : xm_O) = R → xm_G E (d + 3) true 91 0 [some (xm_r (20, 0, 0)), none, none] [] (c, fi, fl, r) R from go_inr (by decide) (Nat.le_of_ble_eq_true rfl) (key _ rfl)
  intro R hR
  refine pg_91_0 rfl ?_
  refine pg_91_1 ?_
  refine pg_91_2 (sk20 hs) ?_
  refine pg_91_5 ?_
  refine pg_91_6 (lv' := [some (xm_r (20, 0, 0)), some (xm_i (0 : Int32)), none]) rfl ?_
  refine (lq_li (N := n) (f := sp_91_7 n) (s0 := ((xm_up fi (20, 0, 0) 36 (0 : Int32)), fl)) (P := fun i1 s1 => ∀ u2 : Option xm_V, xm_G E (d + 3) true 91 7 [some (xm_r (20, 0, 0)), some (xm_i (nI i1)), u2] [] (c, s1.1, s1.2, r) R) (I := fun i1 s1 => kp [2023, 2025, 2036, 2124, 2137, 2138] (xm_up fi (20, 0, 0) 36 (0 : Int32)) s1.1 ∧ vt i1 s1.1) (⟨kp_re [2023, 2025, 2036, 2124, 2137, 2138] _, vt_of (w := 0) (by simp [xm_up]; rfl) (Nat.zero_le _)⟩) (fun i1 s1 hi1 hz => by obtain ⟨hk1, hv1⟩ := hz; exact ⟨kp_tr hk1 rfl (kp_sp_91_7 n i1 s1), vt_91_7 n i1 s1 (by omega) hv1⟩) ?_ ?_) _
  · intro i1 s1 hi1 hz K1 u2
    obtain ⟨hk1, hv1⟩ := hz
    show xm_G E (d + 3) true 91 7 [some (xm_r (20, 0, 0)), some (xm_i (nI i1)), u2] [] (c, s1.1, s1.2, r) R
    refine pg_91_7 rfl ?_
    refine pg_91_8 rfl ?_
    refine pg_91_9 (sk20 hs) ?_
    refine go_top (y := nI n) (fz_kp hf (kp_tr (kp_tr (kp_up (kp_re [2021, 2022, 2023, 2025, 2036, 2039, 2124, 2137, 2138] fi) rfl) rfl hk1) rfl (kp_re [2023, 2025, 2036, 2124, 2137, 2138] s1.1)) rfl rfl rfl).2 ?_
    refine pg_91_12 (fun hc => absurd hc (nx_nle (a := i1) (b := n) rfl rfl (by omega) (by omega))) (fun _ => ?_)
    refine pg_91_15 rfl ?_
    refine pg_91_16 (sk20 hs) (sr20_19 hs) ?_
    refine pg_91_19 rfl ?_
    refine pg_91_20 (sk21_19 hs) (i := i1) rfl (by omega) (by omega) ?_
    refine pg_91_21 (fun hc1 => ?_) (fun hc2 => ?_)
    · refine pg_91_70 (y := (nI (i1 + 1))) (lv' := [some (xm_r (20, 0, 0)), some (xm_i (nI (i1 + 1))), u2]) rfl (nI_1 i1) rfl ?_
      refine pg_91_73 ?_
      exact K1 (s1.1, s1.2) (by unfold sp_91_7; try rw [if_pos hc1]; all_goals rfl) _
    · refine pg_91_24 rfl ?_
      refine pg_91_25 rfl ?_
      refine pg_91_26 rfl ?_
      refine pg_91_27 (sk20 hs) ?_
      refine go_top (y := nI n) (fz_kp hf (kp_tr (kp_tr (kp_up (kp_re [2021, 2022, 2023, 2025, 2036, 2039, 2124, 2137, 2138] fi) rfl) rfl hk1) rfl (kp_re [2023, 2025, 2036, 2124, 2137, 2138] s1.1)) rfl rfl rfl).2 ?_
      refine pg_91_30 rfl ?_
      refine pg_91_31 rfl ?_
      refine pg_91_32 ?_
      refine pg_91_33 rfl ?_
      refine pg_91_34 (sk20 hs) (sr20_20 hs) ?_
      refine pg_91_37 rfl ?_
      refine pg_91_38 (Or.inl (sk21_20 hs)) (i := i1) rfl (by omega) (by omega) ?_
      refine pg_91_39 (sk20 hs) (Nat.le_of_ble_eq_true rfl) (ct_72 (p := i1) (q := (3 : Int32)) (x := (s1.1 (21, 20, 0) i1)) hs (by omega)) ?_
      refine pg_91_42 (sk20 hs) (Nat.le_of_ble_eq_true rfl) (ct_75 (p := i1) (y := (nI n)) (f := ((sp_72 s1.1 i1 (3 : Int32) (s1.1 (21, 20, 0) i1)).1)) hs (by omega)) ?_
      refine pg_91_45 rfl ?_
      refine pg_91_46 rfl ?_
      refine pg_91_47 ?_
      refine pg_91_48 (sk20 hs) (Nat.le_of_ble_eq_true rfl) (ct_76 (x := (nI i1)) (q := (3 : Int32)) hs) ?_
      refine pg_91_51 (lv' := [some (xm_r (20, 0, 0)), some (xm_i (nI i1)), some (xm_i (bI (sp_76 ((sp_75 ((sp_72 s1.1 i1 (3 : Int32) (s1.1 (21, 20, 0) i1)).2) s1.2 i1 (nI n) ((sp_72 s1.1 i1 (3 : Int32) (s1.1 (21, 20, 0) i1)).1)).1) ((sp_75 ((sp_72 s1.1 i1 (3 : Int32) (s1.1 (21, 20, 0) i1)).2) s1.2 i1 (nI n) ((sp_72 s1.1 i1 (3 : Int32) (s1.1 (21, 20, 0) i1)).1)).2) (nI i1) (3 : Int32))))]) rfl ?_
      refine pg_91_52 rfl ?_
      refine pg_91_53 rfl ?_
      refine pg_91_54 (sk20 hs) ?_
      refine go_top (y := nI n) (fz_kp hf (kp_tr (kp_tr (kp_up (kp_re [2021, 2022, 2023, 2025, 2036, 2039, 2124, 2137, 2138] fi) rfl) rfl hk1) rfl (kp_tr (kp_tr (kp_re [2023, 2025, 2036, 2124, 2137, 2138] s1.1) rfl (kp_sp_72 s1.1 i1 (3 : Int32) (s1.1 (21, 20, 0) i1))) rfl (kp_sp_75 ((sp_72 s1.1 i1 (3 : Int32) (s1.1 (21, 20, 0) i1)).2) s1.2 i1 (nI n) ((sp_72 s1.1 i1 (3 : Int32) (s1.1 (21, 20, 0) i1)).1)))) rfl rfl rfl).2 ?_
      refine pg_91_57 rfl ?_
      refine pg_91_58 (sk20 hs) (Nat.le_of_ble_eq_true rfl) (ct_79 (p := n) (g := (bI (sp_76 ((sp_75 ((sp_72 s1.1 i1 (3 : Int32) (s1.1 (21, 20, 0) i1)).2) s1.2 i1 (nI n) ((sp_72 s1.1 i1 (3 : Int32) (s1.1 (21, 20, 0) i1)).1)).1) ((sp_75 ((sp_72 s1.1 i1 (3 : Int32) (s1.1 (21, 20, 0) i1)).2) s1.2 i1 (nI n) ((sp_72 s1.1 i1 (3 : Int32) (s1.1 (21, 20, 0) i1)).1)).2) (nI i1) (3 : Int32)))) hs (by omega)) ?_
      refine pg_91_61 rfl ?_
      refine pg_91_62 rfl ?_
      refine pg_91_63 rfl ?_
      refine pg_91_64 (sk20 hs) (Nat.le_of_ble_eq_true rfl) (ct_78  hs) ?_
      have hw1 := vt_get (vt_kp hv1 (kp_tr (kp_tr (kp_tr (kp_re [2023, 2025, 2124, 2137, 2138] s1.1) rfl (kp_sp_72 s1.1 i1 (3 : Int32) (s1.1 (21, 20, 0) i1))) rfl (kp_sp_75 ((sp_72 s1.1 i1 (3 : Int32) (s1.1 (21, 20, 0) i1)).2) s1.2 i1 (nI n) ((sp_72 s1.1 i1 (3 : Int32) (s1.1 (21, 20, 0) i1)).1))) rfl (kp_sp_79 ((sp_75 ((sp_72 s1.1 i1 (3 : Int32) (s1.1 (21, 20, 0) i1)).2) s1.2 i1 (nI n) ((sp_72 s1.1 i1 (3 : Int32) (s1.1 (21, 20, 0) i1)).1)).1) n (bI (sp_76 ((sp_75 ((sp_72 s1.1 i1 (3 : Int32) (s1.1 (21, 20, 0) i1)).2) s1.2 i1 (nI n) ((sp_72 s1.1 i1 (3 : Int32) (s1.1 (21, 20, 0) i1)).1)).1) ((sp_75 ((sp_72 s1.1 i1 (3 : Int32) (s1.1 (21, 20, 0) i1)).2) s1.2 i1 (nI n) ((sp_72 s1.1 i1 (3 : Int32) (s1.1 (21, 20, 0) i1)).1)).2) (nI i1) (3 : Int32))))) rfl) (by omega)
      refine pg_91_67 (sk20 hs) (Nat.le_of_ble_eq_true rfl) (ct_84 (b := (bI (sp_76 ((sp_75 ((sp_72 s1.1 i1 (3 : Int32) (s1.1 (21, 20, 0) i1)).2) s1.2 i1 (nI n) ((sp_72 s1.1 i1 (3 : Int32) (s1.1 (21, 20, 0) i1)).1)).1) ((sp_75 ((sp_72 s1.1 i1 (3 : Int32) (s1.1 (21, 20, 0) i1)).2) s1.2 i1 (nI n) ((sp_72 s1.1 i1 (3 : Int32) (s1.1 (21, 20, 0) i1)).1)).2) (nI i1) (3 : Int32)))) (x := (sp_78 ((sp_75 ((sp_72 s1.1 i1 (3 : Int32) (s1.1 (21, 20, 0) i1)).2) s1.2 i1 (nI n) ((sp_72 s1.1 i1 (3 : Int32) (s1.1 (21, 20, 0) i1)).1)).2))) (w := ((sp_79 ((sp_75 ((sp_72 s1.1 i1 (3 : Int32) (s1.1 (21, 20, 0) i1)).2) s1.2 i1 (nI n) ((sp_72 s1.1 i1 (3 : Int32) (s1.1 (21, 20, 0) i1)).1)).1) n (bI (sp_76 ((sp_75 ((sp_72 s1.1 i1 (3 : Int32) (s1.1 (21, 20, 0) i1)).2) s1.2 i1 (nI n) ((sp_72 s1.1 i1 (3 : Int32) (s1.1 (21, 20, 0) i1)).1)).1) ((sp_75 ((sp_72 s1.1 i1 (3 : Int32) (s1.1 (21, 20, 0) i1)).2) s1.2 i1 (nI n) ((sp_72 s1.1 i1 (3 : Int32) (s1.1 (21, 20, 0) i1)).1)).2) (nI i1) (3 : Int32)))) (20, 0, 0) 36).toNatClampNeg) hs (by have := hw1.2; omega) hw1.1 (bI_01 _)) ?_
      refine pg_91_70 (y := (nI (i1 + 1))) (lv' := [some (xm_r (20, 0, 0)), some (xm_i (nI (i1 + 1))), some (xm_i (bI (sp_76 ((sp_75 ((sp_72 s1.1 i1 (3 : Int32) (s1.1 (21, 20, 0) i1)).2) s1.2 i1 (nI n) ((sp_72 s1.1 i1 (3 : Int32) (s1.1 (21, 20, 0) i1)).1)).1) ((sp_75 ((sp_72 s1.1 i1 (3 : Int32) (s1.1 (21, 20, 0) i1)).2) s1.2 i1 (nI n) ((sp_72 s1.1 i1 (3 : Int32) (s1.1 (21, 20, 0) i1)).1)).2) (nI i1) (3 : Int32))))]) rfl (nI_1 i1) rfl ?_
      refine pg_91_73 ?_
      exact K1 ((sp_84 (sp_79 ((sp_75 ((sp_72 s1.1 i1 (3 : Int32) (s1.1 (21, 20, 0) i1)).2) s1.2 i1 (nI n) ((sp_72 s1.1 i1 (3 : Int32) (s1.1 (21, 20, 0) i1)).1)).1) n (bI (sp_76 ((sp_75 ((sp_72 s1.1 i1 (3 : Int32) (s1.1 (21, 20, 0) i1)).2) s1.2 i1 (nI n) ((sp_72 s1.1 i1 (3 : Int32) (s1.1 (21, 20, 0) i1)).1)).1) ((sp_75 ((sp_72 s1.1 i1 (3 : Int32) (s1.1 (21, 20, 0) i1)).2) s1.2 i1 (nI n) ((sp_72 s1.1 i1 (3 : Int32) (s1.1 (21, 20, 0) i1)).1)).2) (nI i1) (3 : Int32)))) (bI (sp_76 ((sp_75 ((sp_72 s1.1 i1 (3 : Int32) (s1.1 (21, 20, 0) i1)).2) s1.2 i1 (nI n) ((sp_72 s1.1 i1 (3 : Int32) (s1.1 (21, 20, 0) i1)).1)).1) ((sp_75 ((sp_72 s1.1 i1 (3 : Int32) (s1.1 (21, 20, 0) i1)).2) s1.2 i1 (nI n) ((sp_72 s1.1 i1 (3 : Int32) (s1.1 (21, 20, 0) i1)).1)).2) (nI i1) (3 : Int32))) (sp_78 ((sp_75 ((sp_72 s1.1 i1 (3 : Int32) (s1.1 (21, 20, 0) i1)).2) s1.2 i1 (nI n) ((sp_72 s1.1 i1 (3 : Int32) (s1.1 (21, 20, 0) i1)).1)).2)) (((sp_79 ((sp_75 ((sp_72 s1.1 i1 (3 : Int32) (s1.1 (21, 20, 0) i1)).2) s1.2 i1 (nI n) ((sp_72 s1.1 i1 (3 : Int32) (s1.1 (21, 20, 0) i1)).1)).1) n (bI (sp_76 ((sp_75 ((sp_72 s1.1 i1 (3 : Int32) (s1.1 (21, 20, 0) i1)).2) s1.2 i1 (nI n) ((sp_72 s1.1 i1 (3 : Int32) (s1.1 (21, 20, 0) i1)).1)).1) ((sp_75 ((sp_72 s1.1 i1 (3 : Int32) (s1.1 (21, 20, 0) i1)).2) s1.2 i1 (nI n) ((sp_72 s1.1 i1 (3 : Int32) (s1.1 (21, 20, 0) i1)).1)).2) (nI i1) (3 : Int32)))) (20, 0, 0) 36).toNatClampNeg)), ((sp_75 ((sp_72 s1.1 i1 (3 : Int32) (s1.1 (21, 20, 0) i1)).2) s1.2 i1 (nI n) ((sp_72 s1.1 i1 (3 : Int32) (s1.1 (21, 20, 0) i1)).1)).2)) (by unfold sp_91_7; try rw [if_neg hc2]; all_goals rfl) _
  · intro hz u2
    obtain ⟨hd1x3, wv7⟩ := hz
    show xm_G E (d + 3) true 91 7 [some (xm_r (20, 0, 0)), some (xm_i (nI n)), u2] [] (c, ((lq_it n (sp_91_7 n) ((xm_up fi (20, 0, 0) 36 (0 : Int32)), fl)).1), ((lq_it n (sp_91_7 n) ((xm_up fi (20, 0, 0) 36 (0 : Int32)), fl)).2), r) R
    refine pg_91_7 rfl ?_
    refine pg_91_8 rfl ?_
    refine pg_91_9 (sk20 hs) ?_
    refine go_top (y := nI n) (fz_kp hf (kp_tr (kp_up (kp_re [2021, 2022, 2023, 2025, 2036, 2039, 2124, 2137, 2138] fi) rfl) rfl (kp_it (L := [2023, 2025, 2036, 2124, 2137, 2138]) (p := fun (s : FI × FL) => s.1) (N := n) (F := sp_91_7 n) (s0 := ((xm_up fi (20, 0, 0) 36 (0 : Int32)), fl)) (kp_re [2023, 2025, 2036, 2124, 2137, 2138] (xm_up fi (20, 0, 0) 36 (0 : Int32))) (fun i s => kp_sp_91_7 n i s))) rfl rfl rfl).2 ?_
    refine pg_91_12 (fun _ => ?_) (fun hc => absurd (nx_le (a := n) (b := n) rfl rfl (by omega) (by omega)) hc)
    have hg := vt_get wv7 (by omega)
    refine pg_91_76 rfl ?_
    refine pg_91_77 rfl ?_
    refine pg_91_78 (sk20 hs) ?_
    refine go_top (y := nI n) (fz_kp hf (kp_tr (kp_up (kp_re [2021, 2022, 2023, 2025, 2036, 2039, 2124, 2137, 2138] fi) rfl) rfl (kp_it (L := [2023, 2025, 2036, 2124, 2137, 2138]) (p := fun (s : FI × FL) => s.1) (N := n) (F := sp_91_7 n) (s0 := ((xm_up fi (20, 0, 0) 36 (0 : Int32)), fl)) (kp_re [2023, 2025, 2036, 2124, 2137, 2138] (xm_up fi (20, 0, 0) 36 (0 : Int32))) (fun i s => kp_sp_91_7 n i s))) rfl rfl rfl).2 ?_
    refine pg_91_81 (sk20 hs) (Nat.le_of_ble_eq_true rfl) (ct_85 (x := (nI n)) (w := (((lq_it n (sp_91_7 n) ((xm_up fi (20, 0, 0) 36 (0 : Int32)), fl)).1) (20, 0, 0) 36).toNatClampNeg) hs (by have := hg.2; omega) hg.1) ?_
    refine pg_91_84 (lv' := [some (xm_r (20, 0, 0)), some (xm_i (bI ((sp_85 ((lq_it n (sp_91_7 n) ((xm_up fi (20, 0, 0) 36 (0 : Int32)), fl)).1) (nI n) ((((lq_it n (sp_91_7 n) ((xm_up fi (20, 0, 0) 36 (0 : Int32)), fl)).1) (20, 0, 0) 36).toNatClampNeg)).1))), u2]) rfl ?_
    refine pg_91_85 rfl ?_
    refine pg_91_86 rfl ?_
    suffices KJ : xm_G E (d + 3) true 91 98 [some (xm_r (20, 0, 0)), some (xm_i (bI ((sp_85 ((lq_it n (sp_91_7 n) ((xm_up fi (20, 0, 0) 36 (0 : Int32)), fl)).1) (nI n) ((((lq_it n (sp_91_7 n) ((xm_up fi (20, 0, 0) 36 (0 : Int32)), fl)).1) (20, 0, 0) 36).toNatClampNeg)).1))), u2] [xm_i (if (bI ((sp_85 ((lq_it n (sp_91_7 n) ((xm_up fi (20, 0, 0) 36 (0 : Int32)), fl)).1) (nI n) ((((lq_it n (sp_91_7 n) ((xm_up fi (20, 0, 0) 36 (0 : Int32)), fl)).1) (20, 0, 0) 36).toNatClampNeg)).1)) = 0 then (0 : Int32) else (((sp_85 ((lq_it n (sp_91_7 n) ((xm_up fi (20, 0, 0) 36 (0 : Int32)), fl)).1) (nI n) ((((lq_it n (sp_91_7 n) ((xm_up fi (20, 0, 0) 36 (0 : Int32)), fl)).1) (20, 0, 0) 36).toNatClampNeg)).2) (20, 0, 0) 39)), xm_r (20, 0, 0)] (c, ((sp_85 ((lq_it n (sp_91_7 n) ((xm_up fi (20, 0, 0) 36 (0 : Int32)), fl)).1) (nI n) ((((lq_it n (sp_91_7 n) ((xm_up fi (20, 0, 0) 36 (0 : Int32)), fl)).1) (20, 0, 0) 36).toNatClampNeg)).2), ((lq_it n (sp_91_7 n) ((xm_up fi (20, 0, 0) 36 (0 : Int32)), fl)).2), r) R by
      refine pg_91_87 (fun hc4 => ?_) (fun hc5 => ?_)
      · refine pg_91_97 ?_
        repeat rw [if_pos hc4] at KJ
        repeat rw [if_pos hc4]
        exact KJ
      · refine pg_91_90 rfl ?_
        refine pg_91_91 (sk20 hs) ?_
        refine pg_91_94 ?_
        repeat rw [if_neg hc5] at KJ
        repeat rw [if_neg hc5]
        exact KJ
    refine pg_91_98 (sk20 hs) ?_
    refine pg_91_101 rfl ?_
    refine pg_91_102 rfl ?_
    suffices KJ : xm_G E (d + 3) true 91 119 [some (xm_r (20, 0, 0)), some (xm_i (bI ((sp_85 ((lq_it n (sp_91_7 n) ((xm_up fi (20, 0, 0) 36 (0 : Int32)), fl)).1) (nI n) ((((lq_it n (sp_91_7 n) ((xm_up fi (20, 0, 0) 36 (0 : Int32)), fl)).1) (20, 0, 0) 36).toNatClampNeg)).1))), u2] [xm_i (if (bI ((sp_85 ((lq_it n (sp_91_7 n) ((xm_up fi (20, 0, 0) 36 (0 : Int32)), fl)).1) (nI n) ((((lq_it n (sp_91_7 n) ((xm_up fi (20, 0, 0) 36 (0 : Int32)), fl)).1) (20, 0, 0) 36).toNatClampNeg)).1)) = 0 then ((((sp_85 ((lq_it n (sp_91_7 n) ((xm_up fi (20, 0, 0) 36 (0 : Int32)), fl)).1) (nI n) ((((lq_it n (sp_91_7 n) ((xm_up fi (20, 0, 0) 36 (0 : Int32)), fl)).1) (20, 0, 0) 36).toNatClampNeg)).2) (20, 0, 0) 22) + (1 : Int32)) else (((sp_85 ((lq_it n (sp_91_7 n) ((xm_up fi (20, 0, 0) 36 (0 : Int32)), fl)).1) (nI n) ((((lq_it n (sp_91_7 n) ((xm_up fi (20, 0, 0) 36 (0 : Int32)), fl)).1) (20, 0, 0) 36).toNatClampNeg)).2) (20, 0, 0) 22)), xm_r (20, 0, 0)] (c, (xm_up ((sp_85 ((lq_it n (sp_91_7 n) ((xm_up fi (20, 0, 0) 36 (0 : Int32)), fl)).1) (nI n) ((((lq_it n (sp_91_7 n) ((xm_up fi (20, 0, 0) 36 (0 : Int32)), fl)).1) (20, 0, 0) 36).toNatClampNeg)).2) (20, 0, 0) 21 (if (bI ((sp_85 ((lq_it n (sp_91_7 n) ((xm_up fi (20, 0, 0) 36 (0 : Int32)), fl)).1) (nI n) ((((lq_it n (sp_91_7 n) ((xm_up fi (20, 0, 0) 36 (0 : Int32)), fl)).1) (20, 0, 0) 36).toNatClampNeg)).1)) = 0 then (0 : Int32) else (((sp_85 ((lq_it n (sp_91_7 n) ((xm_up fi (20, 0, 0) 36 (0 : Int32)), fl)).1) (nI n) ((((lq_it n (sp_91_7 n) ((xm_up fi (20, 0, 0) 36 (0 : Int32)), fl)).1) (20, 0, 0) 36).toNatClampNeg)).2) (20, 0, 0) 39))), ((lq_it n (sp_91_7 n) ((xm_up fi (20, 0, 0) 36 (0 : Int32)), fl)).2), r) R by
      refine pg_91_103 (fun hc6 => ?_) (fun hc7 => ?_)
      · refine pg_91_113 rfl ?_
        refine pg_91_114 (sk20 hs) ?_
        refine go_top (y := (((sp_85 ((lq_it n (sp_91_7 n) ((xm_up fi (20, 0, 0) 36 (0 : Int32)), fl)).1) (nI n) ((((lq_it n (sp_91_7 n) ((xm_up fi (20, 0, 0) 36 (0 : Int32)), fl)).1) (20, 0, 0) 36).toNatClampNeg)).2) (20, 0, 0) 22)) (by simp [xm_up]) ?_
        refine pg_91_117 ?_
        refine pg_91_118 ?_
        repeat rw [if_pos hc6] at KJ
        repeat rw [if_pos hc6]
        exact KJ
      · refine pg_91_106 rfl ?_
        refine pg_91_107 (sk20 hs) ?_
        refine go_top (y := (((sp_85 ((lq_it n (sp_91_7 n) ((xm_up fi (20, 0, 0) 36 (0 : Int32)), fl)).1) (nI n) ((((lq_it n (sp_91_7 n) ((xm_up fi (20, 0, 0) 36 (0 : Int32)), fl)).1) (20, 0, 0) 36).toNatClampNeg)).2) (20, 0, 0) 22)) (by simp [xm_up]) ?_
        refine pg_91_110 ?_
        repeat rw [if_neg hc7] at KJ
        repeat rw [if_neg hc7]
        exact KJ
    refine pg_91_119 (sk20 hs) ?_
    exact go_eq (hR.symm.trans (by unfold sp_91; all_goals rfl)) (pg_91_122)
-- 96: Model.finds
def sp_96_7 (p : Nat) (o : Nat) (i1 : Nat) (s1 : FI) : FI := if (nI i1) = (nI p) then ((sp_84 s1 (bI (if (s1 (21, 11, 0) p) = 0 then true else false)) (s1 (21, 33, 0) ((6 * o) + p)) ((s1 (20, 0, 0) 36).toNatClampNeg))) else ((sp_84 s1 (s1 (21, 34, 0) (((36 * o) + (6 * p)) + i1)) (s1 (21, 35, 0) (((36 * o) + (6 * p)) + i1)) ((s1 (20, 0, 0) 36).toNatClampNeg)))
theorem kp_sp_96_7 (p : Nat) (o : Nat) (i1 : Nat) (s1 : FI) : kp [2036, 2137, 2138] s1 (sp_96_7 p o i1 s1) := by
  unfold sp_96_7
  rcases Classical.em ((nI i1) = (nI p)) with hc | hc
  · (try rw [if_pos hc])
    exact (kp_tr (kp_re [2036, 2137, 2138] s1) rfl (kp_sp_84 s1 (bI (if (s1 (21, 11, 0) p) = 0 then true else false)) (s1 (21, 33, 0) ((6 * o) + p)) ((s1 (20, 0, 0) 36).toNatClampNeg)))
  · (try rw [if_neg hc])
    exact (kp_tr (kp_re [2036, 2137, 2138] s1) rfl (kp_sp_84 s1 (s1 (21, 34, 0) (((36 * o) + (6 * p)) + i1)) (s1 (21, 35, 0) (((36 * o) + (6 * p)) + i1)) ((s1 (20, 0, 0) 36).toNatClampNeg)))
def sp_96 (n : Nat) (fi : FI) (p : Nat) (o : Nat) : Bool × FI := ((sp_85 (lq_it n (sp_96_7 p o) (xm_up fi (20, 0, 0) 36 (0 : Int32))) (nI n) (((lq_it n (sp_96_7 p o) (xm_up fi (20, 0, 0) 36 (0 : Int32))) (20, 0, 0) 36).toNatClampNeg)).1, ((sp_85 (lq_it n (sp_96_7 p o) (xm_up fi (20, 0, 0) 36 (0 : Int32))) (nI n) (((lq_it n (sp_96_7 p o) (xm_up fi (20, 0, 0) 36 (0 : Int32))) (20, 0, 0) 36).toNatClampNeg)).2))
theorem kp_sp_96 (n : Nat) (fi : FI) (p : Nat) (o : Nat) : kp [2036, 2039, 2137, 2138] fi ((sp_96 n fi p o).2) := by
  unfold sp_96
  exact (kp_tr (kp_tr (kp_up (kp_re [2036, 2039, 2137, 2138] fi) rfl) rfl (kp_it (L := [2036, 2137, 2138]) (p := fun (s : FI) => s) (N := n) (F := sp_96_7 p o) (s0 := (xm_up fi (20, 0, 0) 36 (0 : Int32))) (kp_re [2036, 2137, 2138] (xm_up fi (20, 0, 0) 36 (0 : Int32))) (fun i s => kp_sp_96_7 p o i s))) rfl (kp_sp_85 (lq_it n (sp_96_7 p o) (xm_up fi (20, 0, 0) 36 (0 : Int32))) (nI n) (((lq_it n (sp_96_7 p o) (xm_up fi (20, 0, 0) 36 (0 : Int32))) (20, 0, 0) 36).toNatClampNeg)))
theorem vt_96_7 (p o i1 : Nat) (s1 : FI) (hi : i1 < 6) (h : vt i1 s1) : vt (i1 + 1) (sp_96_7 p o i1 s1) := by
  have h' := vt_get h (by omega)
  unfold sp_96_7
  split
  · exact vt_of (vt_84 _ _ _ _) (by omega)
  · exact vt_of (vt_84 _ _ _ _) (by omega)
set_option maxRecDepth 4000 in
theorem ct_96 {n : Nat} {E : xm_E} {c : Nat × Nat} {fi : FI} {fl : FL} {r : xm_I → Nat → Option xm_I} {d : Nat} {p : Nat} {o : Nat} (hs : sh n E c r) (hp : p < n) (ho : o < 4) (hf : fz n fi) (hb34 : bz 34 fi) : xm_C E (d + 2) true 96 [xm_r (20, 0, 0), xm_i (nI p), xm_i (nI o)] (c, fi, fl, r) (.inl (some (xm_i (bI ((sp_96 n fi p o).1)))), (c, (sp_96 n fi p o).2, fl, r)) := by
  have hn := sh_n hs
  suffices key : ∀ R : xm_O, ((.inl (some (xm_i (bI ((sp_96 n fi p o).1)))), (c, (sp_96 n fi p o).2, fl, r)) : xm_O) = R → xm_G E (d + 1) true 96 0 [some (xm_r (20, 0, 0)), some (xm_i (nI p)), some (xm_i (nI o)), none] [] (c, fi, fl, r) R from go_inr (by decide) (Nat.le_of_ble_eq_true rfl) (key _ rfl)
  intro R hR
  refine pg_96_0 rfl ?_
  refine pg_96_1 ?_
  refine pg_96_2 (sk20 hs) ?_
  refine pg_96_5 ?_
  refine pg_96_6 (lv' := [some (xm_r (20, 0, 0)), some (xm_i (nI p)), some (xm_i (nI o)), some (xm_i (0 : Int32))]) rfl ?_
  refine (lq_li (N := n) (f := sp_96_7 p o) (s0 := (xm_up fi (20, 0, 0) 36 (0 : Int32))) (P := fun i1 s1 => xm_G E (d + 1) true 96 7 [some (xm_r (20, 0, 0)), some (xm_i (nI p)), some (xm_i (nI o)), some (xm_i (nI i1))] [] (c, s1, fl, r) R) (I := fun i1 s1 => kp [2036, 2137, 2138] (xm_up fi (20, 0, 0) 36 (0 : Int32)) s1 ∧ vt i1 s1) (⟨kp_re [2036, 2137, 2138] _, vt_of (w := 0) (by simp [xm_up]; rfl) (Nat.zero_le _)⟩) (fun i1 s1 hi1 hz => by obtain ⟨hk1, hv1⟩ := hz; exact ⟨kp_tr hk1 rfl (kp_sp_96_7 p o i1 s1), vt_96_7 p o i1 s1 (by omega) hv1⟩) ?_ ?_)
  · intro i1 s1 hi1 hz K1
    obtain ⟨hk1, hv1⟩ := hz
    show xm_G E (d + 1) true 96 7 [some (xm_r (20, 0, 0)), some (xm_i (nI p)), some (xm_i (nI o)), some (xm_i (nI i1))] [] (c, s1, fl, r) R
    refine pg_96_7 rfl ?_
    refine pg_96_8 rfl ?_
    refine pg_96_9 (sk20 hs) ?_
    refine go_top (y := nI n) (fz_kp hf (kp_tr (kp_tr (kp_up (kp_re [2036, 2039, 2137, 2138] fi) rfl) rfl hk1) rfl (kp_re [2036, 2137, 2138] s1)) rfl rfl rfl).2 ?_
    refine pg_96_12 (fun hc => absurd hc (nx_nle (a := i1) (b := n) rfl rfl (by omega) (by omega))) (fun _ => ?_)
    have hw1 := vt_get hv1 (by omega)
    refine pg_96_15 rfl ?_
    refine pg_96_16 rfl ?_
    refine pg_96_17 (fun hc1 => ?_) (fun hc2 => ?_)
    · refine pg_96_52 rfl ?_
      refine pg_96_53 rfl ?_
      refine pg_96_54 (sk20 hs) (sr20_34 hs) ?_
      refine pg_96_57 ?_
      refine pg_96_59 rfl ?_
      refine pg_96_60 ?_
      refine go_top (y := nI (36 * o)) (nx_mul (rfl : (36 : Int32) = nI 36) rfl) ?_
      refine pg_96_61 ?_
      refine pg_96_63 rfl ?_
      refine pg_96_64 ?_
      refine go_top (y := nI (6 * p)) (nx_mul (rfl : (6 : Int32) = nI 6) rfl) ?_
      refine pg_96_65 ?_
      refine go_top (y := nI ((36 * o) + (6 * p))) (nx_add rfl rfl) ?_
      refine pg_96_66 rfl ?_
      refine pg_96_67 ?_
      refine go_top (y := nI (((36 * o) + (6 * p)) + i1)) (nx_add rfl rfl) ?_
      refine pg_96_68 (sk21_34 hs) (i := (((36 * o) + (6 * p)) + i1)) rfl (by omega) (by omega) ?_
      refine pg_96_69 rfl ?_
      refine pg_96_70 (sk20 hs) (sr20_35 hs) ?_
      refine pg_96_73 ?_
      refine pg_96_75 rfl ?_
      refine pg_96_76 ?_
      refine go_top (y := nI (36 * o)) (nx_mul (rfl : (36 : Int32) = nI 36) rfl) ?_
      refine pg_96_77 ?_
      refine pg_96_79 rfl ?_
      refine pg_96_80 ?_
      refine go_top (y := nI (6 * p)) (nx_mul (rfl : (6 : Int32) = nI 6) rfl) ?_
      refine pg_96_81 ?_
      refine go_top (y := nI ((36 * o) + (6 * p))) (nx_add rfl rfl) ?_
      refine pg_96_82 rfl ?_
      refine pg_96_83 ?_
      refine go_top (y := nI (((36 * o) + (6 * p)) + i1)) (nx_add rfl rfl) ?_
      refine pg_96_84 (Or.inl (sk21_35 hs)) (i := (((36 * o) + (6 * p)) + i1)) rfl (by omega) (by omega) ?_
      refine pg_96_85 (sk20 hs) (Nat.le_of_ble_eq_true rfl) (ct_84 (b := (s1 (21, 34, 0) (((36 * o) + (6 * p)) + i1))) (x := (s1 (21, 35, 0) (((36 * o) + (6 * p)) + i1))) (w := (s1 (20, 0, 0) 36).toNatClampNeg) hs (by have := hw1.2; omega) hw1.1 ((bz_kp hb34 (kp_tr (kp_tr (kp_up (kp_re [2036, 2039, 2137, 2138] fi) rfl) rfl hk1) rfl (kp_re [2036, 2137, 2138] s1)) rfl) _)) ?_
      refine pg_96_88 (y := (nI (i1 + 1))) (lv' := [some (xm_r (20, 0, 0)), some (xm_i (nI p)), some (xm_i (nI o)), some (xm_i (nI (i1 + 1)))]) rfl (nI_1 i1) rfl ?_
      refine pg_96_91 ?_
      exact K1 (sp_84 s1 (s1 (21, 34, 0) (((36 * o) + (6 * p)) + i1)) (s1 (21, 35, 0) (((36 * o) + (6 * p)) + i1)) ((s1 (20, 0, 0) 36).toNatClampNeg)) (by unfold sp_96_7; try rw [if_neg hc1]; all_goals rfl)
    · refine pg_96_20 rfl ?_
      refine pg_96_21 rfl ?_
      refine pg_96_22 (sk20 hs) (sr20_11 hs) ?_
      refine pg_96_25 rfl ?_
      refine pg_96_26 (sk21_11 hs) (i := p) rfl (by omega) (by omega) ?_
      suffices KJ : xm_G E (d + 1) true 96 35 [some (xm_r (20, 0, 0)), some (xm_i (nI p)), some (xm_i (nI o)), some (xm_i (nI i1))] [xm_i (bI (if (s1 (21, 11, 0) p) = 0 then true else false)), xm_r (20, 0, 0)] (c, s1, fl, r) R by
        refine pg_96_27 (fun hc3 => ?_) (fun hc4 => ?_)
        · refine pg_96_34 ?_
          repeat rw [if_neg hc3] at KJ
          repeat rw [if_neg hc3]
          exact KJ
        · refine pg_96_30 ?_
          refine pg_96_31 ?_
          repeat rw [if_pos hc4] at KJ
          repeat rw [if_pos hc4]
          exact KJ
      refine pg_96_35 rfl ?_
      refine pg_96_36 (sk20 hs) (sr20_33 hs) ?_
      refine pg_96_39 ?_
      refine pg_96_41 rfl ?_
      refine pg_96_42 ?_
      refine go_top (y := nI (6 * o)) (nx_mul (rfl : (6 : Int32) = nI 6) rfl) ?_
      refine pg_96_43 rfl ?_
      refine pg_96_44 ?_
      refine go_top (y := nI ((6 * o) + p)) (nx_add rfl rfl) ?_
      refine pg_96_45 (Or.inl (sk21_33 hs)) (i := ((6 * o) + p)) rfl (by omega) (by omega) ?_
      refine pg_96_46 (sk20 hs) (Nat.le_of_ble_eq_true rfl) (ct_84 (b := (bI (if (s1 (21, 11, 0) p) = 0 then true else false))) (x := (s1 (21, 33, 0) ((6 * o) + p))) (w := (s1 (20, 0, 0) 36).toNatClampNeg) hs (by have := hw1.2; omega) hw1.1 (bI_01 _)) ?_
      refine pg_96_49 ?_
      refine pg_96_88 (y := (nI (i1 + 1))) (lv' := [some (xm_r (20, 0, 0)), some (xm_i (nI p)), some (xm_i (nI o)), some (xm_i (nI (i1 + 1)))]) rfl (nI_1 i1) rfl ?_
      refine pg_96_91 ?_
      exact K1 (sp_84 s1 (bI (if (s1 (21, 11, 0) p) = 0 then true else false)) (s1 (21, 33, 0) ((6 * o) + p)) ((s1 (20, 0, 0) 36).toNatClampNeg)) (by unfold sp_96_7; try rw [if_pos hc2]; all_goals rfl)
  · intro hz
    obtain ⟨hd1x5, wv7⟩ := hz
    show xm_G E (d + 1) true 96 7 [some (xm_r (20, 0, 0)), some (xm_i (nI p)), some (xm_i (nI o)), some (xm_i (nI n))] [] (c, (lq_it n (sp_96_7 p o) (xm_up fi (20, 0, 0) 36 (0 : Int32))), fl, r) R
    refine pg_96_7 rfl ?_
    refine pg_96_8 rfl ?_
    refine pg_96_9 (sk20 hs) ?_
    refine go_top (y := nI n) (fz_kp hf (kp_tr (kp_up (kp_re [2036, 2039, 2137, 2138] fi) rfl) rfl (kp_it (L := [2036, 2137, 2138]) (p := fun (s : FI) => s) (N := n) (F := sp_96_7 p o) (s0 := (xm_up fi (20, 0, 0) 36 (0 : Int32))) (kp_re [2036, 2137, 2138] (xm_up fi (20, 0, 0) 36 (0 : Int32))) (fun i s => kp_sp_96_7 p o i s))) rfl rfl rfl).2 ?_
    refine pg_96_12 (fun _ => ?_) (fun hc => absurd (nx_le (a := n) (b := n) rfl rfl (by omega) (by omega)) hc)
    have hg := vt_get wv7 (by omega)
    refine pg_96_94 rfl ?_
    refine pg_96_95 rfl ?_
    refine pg_96_96 (sk20 hs) ?_
    refine go_top (y := nI n) (fz_kp hf (kp_tr (kp_up (kp_re [2036, 2039, 2137, 2138] fi) rfl) rfl (kp_it (L := [2036, 2137, 2138]) (p := fun (s : FI) => s) (N := n) (F := sp_96_7 p o) (s0 := (xm_up fi (20, 0, 0) 36 (0 : Int32))) (kp_re [2036, 2137, 2138] (xm_up fi (20, 0, 0) 36 (0 : Int32))) (fun i s => kp_sp_96_7 p o i s))) rfl rfl rfl).2 ?_
    refine pg_96_99 (sk20 hs) (Nat.le_of_ble_eq_true rfl) (ct_85 (x := (nI n)) (w := ((lq_it n (sp_96_7 p o) (xm_up fi (20, 0, 0) 36 (0 : Int32))) (20, 0, 0) 36).toNatClampNeg) hs (by have := hg.2; omega) hg.1) ?_
    exact go_eq (hR.symm.trans (by unfold sp_96; all_goals rfl)) (pg_96_102 (bI_01 _))
-- 97: Model.become
def sp_97_44 (p : Nat) (o : Nat) (v : Int32) (i1 : Nat) (s1 : FI) : FI := if (nI o) = (2 : Int32) then (if ((v >>> ((nI i1) &&& 31)) &&& (1 : Int32)) = (1 : Int32) then ((xm_up (xm_up s1 (21, 14, 0) ((6 * p) + i1) (1 : Int32)) (21, 15, 0) ((6 * p) + i1) (if (nI o) = (3 : Int32) then ((v >>> ((nI (4 * i1)) &&& 31)) &&& (15 : Int32)) else (s1 (21, 15, 0) ((6 * p) + i1))))) else ((xm_up (xm_up s1 (21, 14, 0) ((6 * p) + i1) (0 : Int32)) (21, 15, 0) ((6 * p) + i1) (if (nI o) = (3 : Int32) then ((v >>> ((nI (4 * i1)) &&& 31)) &&& (15 : Int32)) else (s1 (21, 15, 0) ((6 * p) + i1)))))) else ((xm_up (xm_up s1 (21, 14, 0) ((6 * p) + i1) (s1 (21, 14, 0) ((6 * p) + i1))) (21, 15, 0) ((6 * p) + i1) (if (nI o) = (3 : Int32) then ((v >>> ((nI (4 * i1)) &&& 31)) &&& (15 : Int32)) else (s1 (21, 15, 0) ((6 * p) + i1)))))
theorem kp_sp_97_44 (p : Nat) (o : Nat) (v : Int32) (i1 : Nat) (s1 : FI) : kp [2114, 2115] s1 (sp_97_44 p o v i1 s1) := by
  unfold sp_97_44
  rcases Classical.em ((nI o) = (2 : Int32)) with hc | hc
  · (try rw [if_pos hc])
    rcases Classical.em (((v >>> ((nI i1) &&& 31)) &&& (1 : Int32)) = (1 : Int32)) with hc | hc
    · (try rw [if_pos hc])
      exact (kp_up (kp_up (kp_re [2114, 2115] s1) rfl) rfl)
    · (try rw [if_neg hc])
      exact (kp_up (kp_up (kp_re [2114, 2115] s1) rfl) rfl)
  · (try rw [if_neg hc])
    exact (kp_up (kp_up (kp_re [2114, 2115] s1) rfl) rfl)
def sp_97 (n : Nat) (fi : FI) (p : Nat) (o : Nat) (v : Int32) : FI := (lq_it n (sp_97_44 p o v) (xm_up (xm_up fi (21, 12, 0) p (if (nI o) = 0 then v else (fi (21, 12, 0) p))) (21, 13, 0) p (if (nI o) = (1 : Int32) then v else (fi (21, 13, 0) p))))
theorem kp_sp_97 (n : Nat) (fi : FI) (p : Nat) (o : Nat) (v : Int32) : kp [2112, 2113, 2114, 2115] fi (sp_97 n fi p o v) := by
  unfold sp_97
  exact (kp_tr (kp_up (kp_up (kp_re [2112, 2113, 2114, 2115] fi) rfl) rfl) rfl (kp_it (L := [2114, 2115]) (p := fun (s : FI) => s) (N := n) (F := sp_97_44 p o v) (s0 := (xm_up (xm_up fi (21, 12, 0) p (if (nI o) = 0 then v else (fi (21, 12, 0) p))) (21, 13, 0) p (if (nI o) = (1 : Int32) then v else (fi (21, 13, 0) p)))) (kp_re [2114, 2115] (xm_up (xm_up fi (21, 12, 0) p (if (nI o) = 0 then v else (fi (21, 12, 0) p))) (21, 13, 0) p (if (nI o) = (1 : Int32) then v else (fi (21, 13, 0) p)))) (fun i s => kp_sp_97_44 p o v i s)))
theorem bz_97_44 (p o : Nat) (v : Int32) (i1 : Nat) (s1 : FI) (h : bz 14 s1) : bz 14 (sp_97_44 p o v i1 s1) := by
  unfold sp_97_44
  (repeat' split) <;> refine bz_ne (bz_up h ?_) (by decide) <;> first | exact Or.inl rfl | exact Or.inr rfl | exact h _
set_option maxRecDepth 4000 in
theorem ct_97 {n : Nat} {E : xm_E} {c : Nat × Nat} {fi : FI} {fl : FL} {r : xm_I → Nat → Option xm_I} {d : Nat} {p : Nat} {o : Nat} {v : Int32} (hs : sh n E c r) (hp : p < n) (hf : fz n fi) (hb14 : bz 14 fi) : xm_C E (d + 1) true 97 [xm_r (20, 0, 0), xm_i (nI p), xm_i (nI o), xm_i v] (c, fi, fl, r) (.inl (none), (c, (sp_97 n fi p o v), fl, r)) := by
  have hn := sh_n hs
  suffices key : ∀ R : xm_O, ((.inl (none), (c, (sp_97 n fi p o v), fl, r)) : xm_O) = R → xm_G E (d + 0) true 97 0 [some (xm_r (20, 0, 0)), some (xm_i (nI p)), some (xm_i (nI o)), some (xm_i v), none] [] (c, fi, fl, r) R from go_inr (by decide) (Nat.le_of_ble_eq_true rfl) (key _ rfl)
  intro R hR
  refine pg_97_0 rfl ?_
  refine pg_97_1 (sk20 hs) (sr20_12 hs) ?_
  refine pg_97_4 rfl ?_
  refine pg_97_5 rfl ?_
  suffices KJ : xm_G E (d + 0) true 97 19 [some (xm_r (20, 0, 0)), some (xm_i (nI p)), some (xm_i (nI o)), some (xm_i v), none] [xm_i (if (nI o) = 0 then v else (fi (21, 12, 0) p)), xm_i (nI p), xm_r (21, 12, 0)] (c, fi, fl, r) R by
    refine pg_97_6 (fun hc1 => ?_) (fun hc2 => ?_)
    · refine pg_97_13 rfl ?_
      refine pg_97_14 (sk20 hs) (sr20_12 hs) ?_
      refine pg_97_17 rfl ?_
      refine pg_97_18 (Or.inl (sk21_12 hs)) (i := p) rfl (by omega) (by omega) ?_
      repeat rw [if_neg hc1] at KJ
      repeat rw [if_neg hc1]
      exact KJ
    · refine pg_97_9 rfl ?_
      refine pg_97_10 ?_
      repeat rw [if_pos hc2] at KJ
      repeat rw [if_pos hc2]
      exact KJ
  refine pg_97_19 (sk21_12 hs) (i := p) rfl (by omega) (by omega) ?_
  refine pg_97_20 rfl ?_
  refine pg_97_21 (sk20 hs) (sr20_13 hs) ?_
  refine pg_97_24 rfl ?_
  refine pg_97_25 rfl ?_
  refine pg_97_26 ?_
  suffices KJ : xm_G E (d + 0) true 97 40 [some (xm_r (20, 0, 0)), some (xm_i (nI p)), some (xm_i (nI o)), some (xm_i v), none] [xm_i (if (nI o) = (1 : Int32) then v else (fi (21, 13, 0) p)), xm_i (nI p), xm_r (21, 13, 0)] (c, (xm_up fi (21, 12, 0) p (if (nI o) = 0 then v else (fi (21, 12, 0) p))), fl, r) R by
    refine pg_97_27 (fun hc3 => ?_) (fun hc4 => ?_)
    · refine pg_97_34 rfl ?_
      refine pg_97_35 (sk20 hs) (sr20_13 hs) ?_
      refine pg_97_38 rfl ?_
      refine pg_97_39 (Or.inl (sk21_13 hs)) (i := p) rfl (by omega) (by omega) ?_
      refine go_top (y := (fi (21, 13, 0) p)) (by simp [xm_up]) ?_
      repeat rw [if_neg hc3] at KJ
      repeat rw [if_neg hc3]
      exact KJ
    · refine pg_97_30 rfl ?_
      refine pg_97_31 ?_
      repeat rw [if_pos hc4] at KJ
      repeat rw [if_pos hc4]
      exact KJ
  refine pg_97_40 (sk21_13 hs) (i := p) rfl (by omega) (by omega) ?_
  refine pg_97_41 ?_
  refine pg_97_42 (lv' := [some (xm_r (20, 0, 0)), some (xm_i (nI p)), some (xm_i (nI o)), some (xm_i v), some (xm_i (0 : Int32))]) rfl ?_
  refine (lq_li (N := n) (f := sp_97_44 p o v) (s0 := (xm_up (xm_up fi (21, 12, 0) p (if (nI o) = 0 then v else (fi (21, 12, 0) p))) (21, 13, 0) p (if (nI o) = (1 : Int32) then v else (fi (21, 13, 0) p)))) (P := fun i1 s1 => xm_G E (d + 0) true 97 44 [some (xm_r (20, 0, 0)), some (xm_i (nI p)), some (xm_i (nI o)), some (xm_i v), some (xm_i (nI i1))] [] (c, s1, fl, r) R) (I := fun i1 s1 => kp [2114, 2115] (xm_up (xm_up fi (21, 12, 0) p (if (nI o) = 0 then v else (fi (21, 12, 0) p))) (21, 13, 0) p (if (nI o) = (1 : Int32) then v else (fi (21, 13, 0) p))) s1 ∧ bz 14 s1) (⟨kp_re [2114, 2115] _, bz_ne (bz_ne hb14 (by decide)) (by decide)⟩) (fun i1 s1 hi1 hz => by obtain ⟨hk1, hv1⟩ := hz; exact ⟨kp_tr hk1 rfl (kp_sp_97_44 p o v i1 s1), bz_97_44 p o v i1 s1 hv1⟩) ?_ ?_)
  · intro i1 s1 hi1 hz K1
    obtain ⟨hk1, hv1⟩ := hz
    show xm_G E (d + 0) true 97 44 [some (xm_r (20, 0, 0)), some (xm_i (nI p)), some (xm_i (nI o)), some (xm_i v), some (xm_i (nI i1))] [] (c, s1, fl, r) R
    refine pg_97_44 rfl ?_
    refine pg_97_46 rfl ?_
    refine pg_97_47 (sk20 hs) ?_
    refine go_top (y := nI n) (fz_kp hf (kp_tr (kp_tr (kp_up (kp_up (kp_re [2112, 2113, 2114, 2115] fi) rfl) rfl) rfl hk1) rfl (kp_re [2114, 2115] s1)) rfl rfl rfl).2 ?_
    refine pg_97_50 (fun hc => absurd hc (nx_nle (a := i1) (b := n) rfl rfl (by omega) (by omega))) (fun _ => ?_)
    refine pg_97_53 rfl ?_
    refine pg_97_54 (sk20 hs) (sr20_14 hs) ?_
    refine pg_97_57 ?_
    refine pg_97_59 rfl ?_
    refine pg_97_60 ?_
    refine go_top (y := nI (6 * p)) (nx_mul (rfl : (6 : Int32) = nI 6) rfl) ?_
    refine pg_97_61 rfl ?_
    refine pg_97_63 ?_
    refine go_top (y := nI ((6 * p) + i1)) (nx_add rfl rfl) ?_
    refine pg_97_64 rfl ?_
    refine pg_97_65 ?_
    refine pg_97_66 (fun hc5 => ?_) (fun hc6 => ?_)
    · refine pg_97_87 rfl ?_
      refine pg_97_88 (sk20 hs) (sr20_14 hs) ?_
      refine pg_97_91 ?_
      refine pg_97_93 rfl ?_
      refine pg_97_94 ?_
      refine go_top (y := nI (6 * p)) (nx_mul (rfl : (6 : Int32) = nI 6) rfl) ?_
      refine pg_97_95 rfl ?_
      refine pg_97_97 ?_
      refine go_top (y := nI ((6 * p) + i1)) (nx_add rfl rfl) ?_
      refine pg_97_98 (sk21_14 hs) (i := ((6 * p) + i1)) rfl (by omega) (by omega) ?_
      refine pg_97_99 (sk21_14 hs) (i := ((6 * p) + i1)) rfl (by omega) (by omega) (hv1 _) ?_
      refine pg_97_100 rfl ?_
      refine pg_97_101 (sk20 hs) (sr20_15 hs) ?_
      refine pg_97_104 ?_
      refine pg_97_106 rfl ?_
      refine pg_97_107 ?_
      refine go_top (y := nI (6 * p)) (nx_mul (rfl : (6 : Int32) = nI 6) rfl) ?_
      refine pg_97_108 rfl ?_
      refine pg_97_110 ?_
      refine go_top (y := nI ((6 * p) + i1)) (nx_add rfl rfl) ?_
      refine pg_97_111 rfl ?_
      refine pg_97_112 ?_
      suffices KJ : xm_G E (d + 0) true 97 140 [some (xm_r (20, 0, 0)), some (xm_i (nI p)), some (xm_i (nI o)), some (xm_i v), some (xm_i (nI i1))] [xm_i (if (nI o) = (3 : Int32) then ((v >>> ((nI (4 * i1)) &&& 31)) &&& (15 : Int32)) else (s1 (21, 15, 0) ((6 * p) + i1))), xm_i (nI ((6 * p) + i1)), xm_r (21, 15, 0)] (c, (xm_up s1 (21, 14, 0) ((6 * p) + i1) (s1 (21, 14, 0) ((6 * p) + i1))), fl, r) R by
        refine pg_97_113 (fun hc7 => ?_) (fun hc8 => ?_)
        · refine pg_97_128 rfl ?_
          refine pg_97_129 (sk20 hs) (sr20_15 hs) ?_
          refine pg_97_132 ?_
          refine pg_97_134 rfl ?_
          refine pg_97_135 ?_
          refine go_top (y := nI (6 * p)) (nx_mul (rfl : (6 : Int32) = nI 6) rfl) ?_
          refine pg_97_136 rfl ?_
          refine pg_97_138 ?_
          refine go_top (y := nI ((6 * p) + i1)) (nx_add rfl rfl) ?_
          refine pg_97_139 (Or.inl (sk21_15 hs)) (i := ((6 * p) + i1)) rfl (by omega) (by omega) ?_
          refine go_top (y := (s1 (21, 15, 0) ((6 * p) + i1))) (by simp [xm_up]) ?_
          repeat rw [if_neg hc7] at KJ
          repeat rw [if_neg hc7]
          exact KJ
        · refine pg_97_116 rfl ?_
          refine pg_97_117 ?_
          refine pg_97_118 rfl ?_
          refine pg_97_120 ?_
          refine go_top (y := nI (4 * i1)) (nx_mul (rfl : (4 : Int32) = nI 4) rfl) ?_
          refine pg_97_121 ?_
          refine pg_97_122 ?_
          refine pg_97_124 ?_
          refine pg_97_125 ?_
          repeat rw [if_pos hc8] at KJ
          repeat rw [if_pos hc8]
          exact KJ
      refine pg_97_140 (sk21_15 hs) (i := ((6 * p) + i1)) rfl (by omega) (by omega) ?_
      refine pg_97_141 (y := (nI (i1 + 1))) (lv' := [some (xm_r (20, 0, 0)), some (xm_i (nI p)), some (xm_i (nI o)), some (xm_i v), some (xm_i (nI (i1 + 1)))]) rfl (nI_1 i1) rfl ?_
      refine pg_97_144 ?_
      exact K1 (xm_up (xm_up s1 (21, 14, 0) ((6 * p) + i1) (s1 (21, 14, 0) ((6 * p) + i1))) (21, 15, 0) ((6 * p) + i1) (if (nI o) = (3 : Int32) then ((v >>> ((nI (4 * i1)) &&& 31)) &&& (15 : Int32)) else (s1 (21, 15, 0) ((6 * p) + i1)))) (by unfold sp_97_44; try rw [if_neg hc5]; all_goals rfl)
    · refine pg_97_69 rfl ?_
      refine pg_97_70 rfl ?_
      refine pg_97_72 ?_
      refine pg_97_73 ?_
      refine pg_97_74 ?_
      refine pg_97_75 ?_
      refine pg_97_76 (fun hc9 => ?_) (fun hc10 => ?_)
      · refine pg_97_83 ?_
        refine pg_97_84 ?_
        refine pg_97_99 (sk21_14 hs) (i := ((6 * p) + i1)) rfl (by omega) (by omega) (Or.inl rfl) ?_
        refine pg_97_100 rfl ?_
        refine pg_97_101 (sk20 hs) (sr20_15 hs) ?_
        refine pg_97_104 ?_
        refine pg_97_106 rfl ?_
        refine pg_97_107 ?_
        refine go_top (y := nI (6 * p)) (nx_mul (rfl : (6 : Int32) = nI 6) rfl) ?_
        refine pg_97_108 rfl ?_
        refine pg_97_110 ?_
        refine go_top (y := nI ((6 * p) + i1)) (nx_add rfl rfl) ?_
        refine pg_97_111 rfl ?_
        refine pg_97_112 ?_
        suffices KJ : xm_G E (d + 0) true 97 140 [some (xm_r (20, 0, 0)), some (xm_i (nI p)), some (xm_i (nI o)), some (xm_i v), some (xm_i (nI i1))] [xm_i (if (nI o) = (3 : Int32) then ((v >>> ((nI (4 * i1)) &&& 31)) &&& (15 : Int32)) else (s1 (21, 15, 0) ((6 * p) + i1))), xm_i (nI ((6 * p) + i1)), xm_r (21, 15, 0)] (c, (xm_up s1 (21, 14, 0) ((6 * p) + i1) (0 : Int32)), fl, r) R by
          refine pg_97_113 (fun hc11 => ?_) (fun hc12 => ?_)
          · refine pg_97_128 rfl ?_
            refine pg_97_129 (sk20 hs) (sr20_15 hs) ?_
            refine pg_97_132 ?_
            refine pg_97_134 rfl ?_
            refine pg_97_135 ?_
            refine go_top (y := nI (6 * p)) (nx_mul (rfl : (6 : Int32) = nI 6) rfl) ?_
            refine pg_97_136 rfl ?_
            refine pg_97_138 ?_
            refine go_top (y := nI ((6 * p) + i1)) (nx_add rfl rfl) ?_
            refine pg_97_139 (Or.inl (sk21_15 hs)) (i := ((6 * p) + i1)) rfl (by omega) (by omega) ?_
            refine go_top (y := (s1 (21, 15, 0) ((6 * p) + i1))) (by simp [xm_up]) ?_
            repeat rw [if_neg hc11] at KJ
            repeat rw [if_neg hc11]
            exact KJ
          · refine pg_97_116 rfl ?_
            refine pg_97_117 ?_
            refine pg_97_118 rfl ?_
            refine pg_97_120 ?_
            refine go_top (y := nI (4 * i1)) (nx_mul (rfl : (4 : Int32) = nI 4) rfl) ?_
            refine pg_97_121 ?_
            refine pg_97_122 ?_
            refine pg_97_124 ?_
            refine pg_97_125 ?_
            repeat rw [if_pos hc12] at KJ
            repeat rw [if_pos hc12]
            exact KJ
        refine pg_97_140 (sk21_15 hs) (i := ((6 * p) + i1)) rfl (by omega) (by omega) ?_
        refine pg_97_141 (y := (nI (i1 + 1))) (lv' := [some (xm_r (20, 0, 0)), some (xm_i (nI p)), some (xm_i (nI o)), some (xm_i v), some (xm_i (nI (i1 + 1)))]) rfl (nI_1 i1) rfl ?_
        refine pg_97_144 ?_
        exact K1 (xm_up (xm_up s1 (21, 14, 0) ((6 * p) + i1) (0 : Int32)) (21, 15, 0) ((6 * p) + i1) (if (nI o) = (3 : Int32) then ((v >>> ((nI (4 * i1)) &&& 31)) &&& (15 : Int32)) else (s1 (21, 15, 0) ((6 * p) + i1)))) (by unfold sp_97_44; try rw [if_pos hc6]; try rw [if_neg hc9]; all_goals rfl)
      · refine pg_97_79 ?_
        refine pg_97_80 ?_
        refine pg_97_99 (sk21_14 hs) (i := ((6 * p) + i1)) rfl (by omega) (by omega) (Or.inr rfl) ?_
        refine pg_97_100 rfl ?_
        refine pg_97_101 (sk20 hs) (sr20_15 hs) ?_
        refine pg_97_104 ?_
        refine pg_97_106 rfl ?_
        refine pg_97_107 ?_
        refine go_top (y := nI (6 * p)) (nx_mul (rfl : (6 : Int32) = nI 6) rfl) ?_
        refine pg_97_108 rfl ?_
        refine pg_97_110 ?_
        refine go_top (y := nI ((6 * p) + i1)) (nx_add rfl rfl) ?_
        refine pg_97_111 rfl ?_
        refine pg_97_112 ?_
        suffices KJ : xm_G E (d + 0) true 97 140 [some (xm_r (20, 0, 0)), some (xm_i (nI p)), some (xm_i (nI o)), some (xm_i v), some (xm_i (nI i1))] [xm_i (if (nI o) = (3 : Int32) then ((v >>> ((nI (4 * i1)) &&& 31)) &&& (15 : Int32)) else (s1 (21, 15, 0) ((6 * p) + i1))), xm_i (nI ((6 * p) + i1)), xm_r (21, 15, 0)] (c, (xm_up s1 (21, 14, 0) ((6 * p) + i1) (1 : Int32)), fl, r) R by
          refine pg_97_113 (fun hc13 => ?_) (fun hc14 => ?_)
          · refine pg_97_128 rfl ?_
            refine pg_97_129 (sk20 hs) (sr20_15 hs) ?_
            refine pg_97_132 ?_
            refine pg_97_134 rfl ?_
            refine pg_97_135 ?_
            refine go_top (y := nI (6 * p)) (nx_mul (rfl : (6 : Int32) = nI 6) rfl) ?_
            refine pg_97_136 rfl ?_
            refine pg_97_138 ?_
            refine go_top (y := nI ((6 * p) + i1)) (nx_add rfl rfl) ?_
            refine pg_97_139 (Or.inl (sk21_15 hs)) (i := ((6 * p) + i1)) rfl (by omega) (by omega) ?_
            refine go_top (y := (s1 (21, 15, 0) ((6 * p) + i1))) (by simp [xm_up]) ?_
            repeat rw [if_neg hc13] at KJ
            repeat rw [if_neg hc13]
            exact KJ
          · refine pg_97_116 rfl ?_
            refine pg_97_117 ?_
            refine pg_97_118 rfl ?_
            refine pg_97_120 ?_
            refine go_top (y := nI (4 * i1)) (nx_mul (rfl : (4 : Int32) = nI 4) rfl) ?_
            refine pg_97_121 ?_
            refine pg_97_122 ?_
            refine pg_97_124 ?_
            refine pg_97_125 ?_
            repeat rw [if_pos hc14] at KJ
            repeat rw [if_pos hc14]
            exact KJ
        refine pg_97_140 (sk21_15 hs) (i := ((6 * p) + i1)) rfl (by omega) (by omega) ?_
        refine pg_97_141 (y := (nI (i1 + 1))) (lv' := [some (xm_r (20, 0, 0)), some (xm_i (nI p)), some (xm_i (nI o)), some (xm_i v), some (xm_i (nI (i1 + 1)))]) rfl (nI_1 i1) rfl ?_
        refine pg_97_144 ?_
        exact K1 (xm_up (xm_up s1 (21, 14, 0) ((6 * p) + i1) (1 : Int32)) (21, 15, 0) ((6 * p) + i1) (if (nI o) = (3 : Int32) then ((v >>> ((nI (4 * i1)) &&& 31)) &&& (15 : Int32)) else (s1 (21, 15, 0) ((6 * p) + i1)))) (by unfold sp_97_44; try rw [if_pos hc6]; try rw [if_pos hc10]; all_goals rfl)
  · intro hz
    obtain ⟨hd1x15, wv44⟩ := hz
    show xm_G E (d + 0) true 97 44 [some (xm_r (20, 0, 0)), some (xm_i (nI p)), some (xm_i (nI o)), some (xm_i v), some (xm_i (nI n))] [] (c, (lq_it n (sp_97_44 p o v) (xm_up (xm_up fi (21, 12, 0) p (if (nI o) = 0 then v else (fi (21, 12, 0) p))) (21, 13, 0) p (if (nI o) = (1 : Int32) then v else (fi (21, 13, 0) p)))), fl, r) R
    refine pg_97_44 rfl ?_
    refine pg_97_46 rfl ?_
    refine pg_97_47 (sk20 hs) ?_
    refine go_top (y := nI n) (fz_kp hf (kp_tr (kp_up (kp_up (kp_re [2112, 2113, 2114, 2115] fi) rfl) rfl) rfl (kp_it (L := [2114, 2115]) (p := fun (s : FI) => s) (N := n) (F := sp_97_44 p o v) (s0 := (xm_up (xm_up fi (21, 12, 0) p (if (nI o) = 0 then v else (fi (21, 12, 0) p))) (21, 13, 0) p (if (nI o) = (1 : Int32) then v else (fi (21, 13, 0) p)))) (kp_re [2114, 2115] (xm_up (xm_up fi (21, 12, 0) p (if (nI o) = 0 then v else (fi (21, 12, 0) p))) (21, 13, 0) p (if (nI o) = (1 : Int32) then v else (fi (21, 13, 0) p)))) (fun i s => kp_sp_97_44 p o v i s))) rfl rfl rfl).2 ?_
    refine pg_97_50 (fun _ => ?_) (fun hc => absurd (nx_le (a := n) (b := n) rfl rfl (by omega) (by omega)) hc)
    exact go_eq (hR.symm.trans (by unfold sp_97; all_goals rfl)) (pg_97_147)
