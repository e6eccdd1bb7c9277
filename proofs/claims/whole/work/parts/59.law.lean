/-! The law: its loop, its start, and the claim. -/
set_option maxRecDepth 4000 in
theorem lw_out {L i : Nat} (h : L < i + 5) (hi : i < 100000) : nI L - 5 < nI i := by
  rw [Int32.lt_iff_toInt_lt]
  have e : (nI L - 5).toInt = (L : Int) - 5 := by
    rw [Int32.toInt_sub, nI_toInt (by omega), show (5 : Int32).toInt = 5 from rfl, Int.bmod_eq_of_le (by omega) (by omega)]
  rw [e, nI_toInt (by omega)]
  omega
set_option maxRecDepth 4000 in
theorem lw_exit {n L i : Nat} {c : Nat × Nat} {fi : FI} {fl : FL} {r : xm_I → Nat → Option xm_I} (h : L < i + 5) (hi : i < 100000) (hsc : (en n L).1 (40, 0, 0) = (110, L)) : ∀ u5 u6 u7 : Option xm_V, xm_G (en n L) 8 true 145 43 [some (xm_r (40, 0, 0)), some (xm_r (0, 0, 0)), some (xm_r (20, 0, 0)), some (xm_r (30, 0, 0)), some (xm_i (nI i)), u5, u6, u7] [] (c, fi, fl, r) (.inl (some (xm_i 1)), (c, fi, fl, r)) := by
  intro u5 u6 u7
  refine pg_145_43 rfl ?_
  refine pg_145_45 rfl ?_
  refine pg_145_46 (t := 110) (n := L) (Or.inl hsc) ?_
  refine pg_145_47 ?_
  refine pg_145_48 ?_
  refine pg_145_49 (fun _ => ?_) (fun hc => absurd (lw_out h hi) hc)
  refine pg_145_1280 ?_
  exact pg_145_1281 (Or.inr rfl)
set_option maxRecDepth 4000 in
theorem lw_loop {n K L P Q : Nat} {xs : Nat → Int32} (hn : n ≤ 6) (hd : en_nd n = true) (hL : L ≤ 2562) (hK : 0 < K) (hK8 : K < 16) : ∀ (m t i : Nat) (c : Nat × Nat) (fi : FI) (fl : FL) (r : xm_I → Nat → Option xm_I), L < i + 5 * m → i + 5 * m ≤ 5 * L + 20 → t + m ≤ L + 10 → Tn n K L xs P Q t c fi fl r → ∃ R : xm_O, R.1 = .inl (some (xm_i 1)) ∧ R.2.1.1 ≤ P + (L + 10) ∧ R.2.1.2 ≤ Q + 6 * (L + 10) ∧ ∀ u5 u6 u7 : Option xm_V, xm_G (en n L) 8 true 145 43 [some (xm_r (40, 0, 0)), some (xm_r (0, 0, 0)), some (xm_r (20, 0, 0)), some (xm_r (30, 0, 0)), some (xm_i (nI i)), u5, u6, u7] [] (c, fi, fl, r) R := by
  intro m
  induction m with
  | zero =>
    intro t i c fi fl r h1 h2 h3 hT
    exact ⟨(.inl (some (xm_i 1)), (c, fi, fl, r)), rfl, Nat.le_trans hT.1.2.2.1 (by omega), Nat.le_trans hT.1.2.2.2 (by omega), lw_exit (by omega) (by omega) en_sc⟩
  | succ m ih =>
    intro t i c fi fl r h1 h2 h3 hT
    rcases Nat.lt_or_ge L (i + 5) with h | h
    · exact ⟨(.inl (some (xm_i 1)), (c, fi, fl, r)), rfl, Nat.le_trans hT.1.2.2.1 (by omega), Nat.le_trans hT.1.2.2.2 (by omega), lw_exit h (by omega) en_sc⟩
    · obtain ⟨c', fi', fl', hT', hX⟩ := tn_all (i := i) hn hT en_sc (by omega) h (en_hx hd hT.1.2.1) hK hK8 (by omega)
      obtain ⟨R, r1, r2, r3, r4⟩ := ih (t + 1) (i + 5) c' fi' fl' r (by omega) (by omega) (by omega) hT'
      exact ⟨R, r1, r2, r3, hX R r4⟩
/-- the heap before the law -/
def f0 (xs : Nat → Int32) : FI := fun a k => if a = (40, 0, 0) then xs k else 0
def l0 : FL := fun _ _ => 0
def r0 : xm_I → Nat → Option xm_I := fun _ _ => none
set_option maxRecDepth 4000 in
theorem f0_z {xs : Nat → Int32} {a : xm_I} (h : ¬ a = (40, 0, 0)) (k : Nat) : f0 xs a k = 0 := if_neg h
set_option maxRecDepth 4000 in
theorem rel_0 {n K : Nat} {f : FI} {fl : FL} {xs : Nat → Int32} (hn : n ≤ 6) (k : kp [100, 700, 701, 800, 2001, 2002, 2005, 2114] (f0 xs) f) (h1 : f (1, 0, 0) 0 = nI K) (h2 : f (20, 0, 0) 2 = nI K) (h5 : f (20, 0, 0) 5 = 65536) (h8 : ∀ a, a < n → f (8, a, 0) 0 = 0 ∧ f (8, a, 0) 1 = 0 ∧ f (8, a, 0) 2 = sp_1 (nI n) ∧ f (8, a, 0) 3 = 0) (h14 : ∀ j, j < 36 → f (21, 14, 0) j = 1) (hl : fl = xm_up l0 (1, 0, 0) 2 65536) : Rel n K f fl f fl 0 := by
  have z : ∀ (a : xm_I) (j : Nat), [100, 700, 701, 800, 2001, 2002, 2005, 2114].contains (kp_c a j) = false → ¬ a = (40, 0, 0) → f a j = 0 := fun a j e h => (k a j e).trans (f0_z h j)
  refine ⟨⟨?_, ?_, ?_, ?_⟩, ⟨h1, h2⟩, fun p hp => ?_, ⟨fun p hp => ?_, fun p hp => ?_, ?_, fun p hp => ?_⟩, ⟨?_, ?_⟩, ⟨?_, ?_⟩, fun a ha => ?_⟩
  · rw [z (1, 0, 0) 1 rfl (by simp), z (20, 0, 0) 4 rfl (by simp)]
  · rw [hl, up_eq, h5]
    rfl
  · rw [hl, up_ne _ _ (by simp), z (20, 0, 0) 6 rfl (by simp)]
    rfl
  · rw [hl, up_ne _ _ (by simp), z (20, 0, 0) 7 rfl (by simp)]
    rfl
  · rw [z (7, p, 0) 2 rfl (by simp), z (21, 8, 0) p rfl (by simp)]
  · rw [z (3, 0, 0) p rfl (by simp), z (21, 9, 0) p rfl (by simp)]
  · rw [hl, up_ne _ _ (by simp), up_ne _ _ (by simp)]
    rfl
  · rw [z (2, 0, 0) 3 rfl (by simp), z (20, 0, 0) 23 rfl (by simp)]
  · rw [z (5, 0, 0) p rfl (by simp), z (21, 24, 0) p rfl (by simp)]
  · exact z (0, 0, 0) 4 rfl (by simp)
  · exact z (20, 0, 0) 3 rfl (by simp)
  · rw [z (0, 0, 0) 5 rfl (by simp), z (20, 0, 0) 21 rfl (by simp)]
  · rw [z (0, 0, 0) 6 rfl (by simp), z (20, 0, 0) 22 rfl (by simp)]
  · obtain ⟨b0, b1, b2, b3⟩ := h8 a ha
    have bz : ∀ b, b < 32 → bt (0 : Int32) b = false := fun b hb => (by decide +kernel : ∀ b, b < 32 → bt (0 : Int32) b = false) b hb
    refine ⟨⟨?_, ?_, fun j hj => ?_, fun j q1 q2 => ?_, fun j b hj hb => ?_, fun j b hj q4 hb => ?_, fun j q1 q2 => ?_⟩, ?_, ?_, ?_, ?_, fun y => ?_, fun y => ?_, fun y => ?_⟩
    · rw [b0, z (21, 12, 0) a rfl (by simp)]
    · rw [b1, z (21, 13, 0) a rfl (by simp)]
    · rw [h14 _ (by omega), b2, bt_s1 n (by omega) j (by omega), decide_eq_true hj]
      rfl
    · rw [b2, bt_s1 n (by omega) j q2, decide_eq_false (by omega)]
    · rw [b3, z (21, 15, 0) _ rfl (by simp), bz _ (by omega), bz _ (by omega)]
    · rw [z (21, 15, 0) _ rfl (by simp), bz _ hb]
    · rw [b3, bz _ q2]
    · rw [z (7, a, 0) 3 rfl (by simp), z (21, 11, 0) a rfl (by simp)]
    · exact Or.inl (z (21, 11, 0) a rfl (by simp))
    · rw [z (7, a, 0) 10 rfl (by simp), z (21, 18, 0) a rfl (by simp)]
    · rw [z (7, a, 0) 11 rfl (by simp), z (21, 19, 0) a rfl (by simp)]
    · exact absurd (z (7, a, 0) 11 rfl (by simp)) y
    · exact absurd (z (7, a, 0) 10 rfl (by simp)) y
    · exact absurd (z (21, 11, 0) a rfl (by simp)) y
set_option maxRecDepth 4000 in
theorem kk_of (k : Int32) : ∃ K, 0 < K ∧ K < 16 ∧ (if k < (1 : Int32) then (3 : Int32) else (if (8 : Int32) < k then (3 : Int32) else k)) = nI K ∧ (if k < (1 : Int32) then (3 : Int32) else (if k ≤ (8 : Int32) then k else (3 : Int32))) = nI K := by
  rcases Classical.em (k < (1 : Int32)) with h | h
  · exact ⟨3, by omega, by omega, by rw [if_pos h]; rfl, by rw [if_pos h]; rfl⟩
  rcases Classical.em ((8 : Int32) < k) with h2 | h2
  · exact ⟨3, by omega, by omega, by rw [if_neg h, if_pos h2]; rfl, by rw [if_neg h, if_neg (Int32.not_le.mpr h2)]; rfl⟩
  · have h3 : ¬ k < 0 := by
      rw [Int32.lt_iff_toInt_lt, show (1 : Int32).toInt = 1 from rfl] at h
      rw [Int32.lt_iff_toInt_lt, show (0 : Int32).toInt = 0 from rfl]
      omega
    obtain ⟨m, hm, e⟩ := nI_of h3
    have h' := h
    have h2' := h2
    rw [e, Int32.lt_iff_toInt_lt, show (1 : Int32).toInt = 1 from rfl, nI_toInt hm] at h'
    rw [e, Int32.lt_iff_toInt_lt, show (8 : Int32).toInt = 8 from rfl, nI_toInt hm] at h2'
    refine ⟨m, by omega, by omega, ?_, ?_⟩
    · rw [if_neg h, if_neg h2]
      exact e
    · rw [if_neg h, if_pos (Int32.not_lt.mp h2)]
      exact e
set_option maxRecDepth 4000 in
theorem sh_ok4 (L : Nat) : sh 4 (en 4 L) (136, 1488) (sq_4 r0) := by
  refine ⟨⟨by decide, by decide⟩, fun q hq => ?_, fun q hq => ?_⟩
  · exact en_ok (List.all_eq_true.mp (by decide +kernel : (sh_l 4).all (fun q => en_kb 4 q.1 q.2.1 q.2.2 && en_pb 4 q.1 136) = true) q hq)
  · exact of_decide_eq_true (List.all_eq_true.mp (by decide +kernel : (sh_r 4).all (fun q => decide (sq_4 r0 q.1 q.2.1 = some q.2.2)) = true) q hq)
set_option maxRecDepth 4000 in
theorem k_sf4 (f : FI) (x k : Int32) : kp [100, 700, 701, 800, 2001, 2002, 2005, 2114] f (sf_4 f x k) := by
  unfold sf_4 cf_68_4_0 cf_0_4_0 cf_43_4_0 cf_43_4_1 cf_43_4_2 cf_43_4_3
  repeat (refine kp_up ?_ rfl)
  exact kp_re _ _
set_option maxRecDepth 4000 in
theorem bz_sf4 (f : FI) (x k : Int32) (h : ∀ j, f (21, 14, 0) j = 0) : bz 14 (sf_4 f x k) := by
  unfold sf_4 cf_68_4_0
  repeat (refine bz_up ?_ (Or.inr rfl))
  refine bz_kp (L := [100, 700, 701, 800, 2001, 2002, 2005]) (fi := f) (fun j => Or.inl (h j)) ?_ rfl
  unfold cf_0_4_0 cf_43_4_0 cf_43_4_1 cf_43_4_2 cf_43_4_3
  repeat (refine kp_up ?_ rfl)
  exact kp_re _ _
set_option maxRecDepth 4000 in
theorem t_0_4 {L K : Nat} {xs : Nat → Int32} {x k : Int32} (e1 : (if k < (1 : Int32) then (3 : Int32) else (if (8 : Int32) < k then (3 : Int32) else k)) = nI K) (e2 : (if k < (1 : Int32) then (3 : Int32) else (if k ≤ (8 : Int32) then k else (3 : Int32))) = nI K) : Tn 4 K L xs 136 1488 0 (136, 1488) (sf_4 (f0 xs) x k) (sl_4 l0) (sq_4 r0) := by
  have kk := k_sf4 (f0 xs) x k
  have h14 : ∀ j, (f0 xs) (21, 14, 0) j = 0 := fun j => f0_z (by simp) j
  have hb : ∀ F, bz F (f0 xs) := fun F j => Or.inl (f0_z (by simp) j)
  refine ⟨⟨sh_ok4 L, by decide +kernel, Nat.le_refl _, Nat.le_refl _⟩, ⟨fun a ha => ?_, rfl⟩, ⟨bz_sf4 _ x k h14, bz_kp (hb 27) kk rfl, bz_kp (hb 29) kk rfl, bz_kp (hb 34) kk rfl⟩, fun j hj => ?_, 0, Nat.le_refl _, ?_⟩
  · exact (match a, ha with
    | 0, _ => ⟨rfl, rfl⟩
    | 1, _ => ⟨rfl, rfl⟩
    | 2, _ => ⟨rfl, rfl⟩
    | 3, _ => ⟨rfl, rfl⟩ : (sf_4 (f0 xs) x k) (7, a, 0) 0 = nI a ∧ (sf_4 (f0 xs) x k) (7, a, 0) 1 = nI 4)
  · rw [kk (40, 0, 0) j rfl]
    exact if_pos rfl
  · refine rel_0 (by decide) kk ?_ ?_ rfl (fun a ha => ?_) (fun j hj => ?_) rfl
    · exact e1
    · exact e2
    · exact (match a, ha with
    | 0, _ => ⟨rfl, rfl, rfl, rfl⟩
    | 1, _ => ⟨rfl, rfl, rfl, rfl⟩
    | 2, _ => ⟨rfl, rfl, rfl, rfl⟩
    | 3, _ => ⟨rfl, rfl, rfl, rfl⟩ : (sf_4 (f0 xs) x k) (8, a, 0) 0 = 0 ∧ (sf_4 (f0 xs) x k) (8, a, 0) 1 = 0 ∧ (sf_4 (f0 xs) x k) (8, a, 0) 2 = sp_1 (nI 4) ∧ (sf_4 (f0 xs) x k) (8, a, 0) 3 = 0)
    · exact (match j, hj with
    | 0, _ => rfl
    | 1, _ => rfl
    | 2, _ => rfl
    | 3, _ => rfl
    | 4, _ => rfl
    | 5, _ => rfl
    | 6, _ => rfl
    | 7, _ => rfl
    | 8, _ => rfl
    | 9, _ => rfl
    | 10, _ => rfl
    | 11, _ => rfl
    | 12, _ => rfl
    | 13, _ => rfl
    | 14, _ => rfl
    | 15, _ => rfl
    | 16, _ => rfl
    | 17, _ => rfl
    | 18, _ => rfl
    | 19, _ => rfl
    | 20, _ => rfl
    | 21, _ => rfl
    | 22, _ => rfl
    | 23, _ => rfl
    | 24, _ => rfl
    | 25, _ => rfl
    | 26, _ => rfl
    | 27, _ => rfl
    | 28, _ => rfl
    | 29, _ => rfl
    | 30, _ => rfl
    | 31, _ => rfl
    | 32, _ => rfl
    | 33, _ => rfl
    | 34, _ => rfl
    | 35, _ => rfl
    | j + 36, hj => absurd hj (by omega) : (sf_4 (f0 xs) x k) (21, 14, 0) j = 1)
set_option maxRecDepth 4000 in
theorem xz_4 {L : Nat} {xs : Nat → Int32} (hL : L ≤ 2562) (hN : (if (if 0 < L then (f0 xs) (40, 0, 0) 0 else 0) < (4 : Int32) then (4 : Int32) else (if (6 : Int32) < (if 0 < L then (f0 xs) (40, 0, 0) 0 else 0) then (4 : Int32) else (if 0 < L then (f0 xs) (40, 0, 0) 0 else 0))) = (4 : Int32)) (hM : (if (if 0 < L then (f0 xs) (40, 0, 0) 0 else 0) < (4 : Int32) then (4 : Int32) else (if (if 0 < L then (f0 xs) (40, 0, 0) 0 else 0) ≤ (6 : Int32) then (if 0 < L then (f0 xs) (40, 0, 0) 0 else 0) else (4 : Int32))) = (4 : Int32)) : xz_P L xs := by
  obtain ⟨K, hK, hK8, e1, e2⟩ := kk_of (if 1 < L then (f0 xs) (40, 0, 0) 1 else 0)
  obtain ⟨R, r1, r2, r3, r4⟩ := lw_loop (n := 4) (K := K) (L := L) (P := 136) (Q := 1488) (xs := xs) (by decide) en_nd4 hL hK hK8 (L + 1) 0 2 (136, 1488) _ _ _ (by omega) (by omega) (by omega) (t_0_4 (x := (if 0 < L then (f0 xs) (40, 0, 0) 0 else 0)) e1 e2)
  have g := lw_start_4 (L := L) (fi := f0 xs) (fl := l0) (r := r0) (R := R) (by omega) rfl rfl hN hM r4
  obtain ⟨f, hf⟩ := g
  exact ⟨en 4 L, ((0, 0), f0 xs, l0, r0), f, R, (40, 0, 0), en_Eok en_nd4, en_sc, en_110 (by decide +kernel), rfl, fun a ha k => ⟨f0_z (fun z => ha (by rw [z]; rfl)) k, rfl, rfl⟩, fun j hj => (if_pos rfl : f0 xs (40, 0, 0) j = xs j), hf, r1, Nat.le_trans r2 (by omega), Nat.le_trans r3 (by omega)⟩
set_option maxRecDepth 4000 in
theorem sh_ok5 (L : Nat) : sh 5 (en 5 L) (171, 1677) (sq_5 r0) := by
  refine ⟨⟨by decide, by decide⟩, fun q hq => ?_, fun q hq => ?_⟩
  · exact en_ok (List.all_eq_true.mp (by decide +kernel : (sh_l 5).all (fun q => en_kb 5 q.1 q.2.1 q.2.2 && en_pb 5 q.1 171) = true) q hq)
  · exact of_decide_eq_true (List.all_eq_true.mp (by decide +kernel : (sh_r 5).all (fun q => decide (sq_5 r0 q.1 q.2.1 = some q.2.2)) = true) q hq)
set_option maxRecDepth 4000 in
theorem k_sf5 (f : FI) (x k : Int32) : kp [100, 700, 701, 800, 2001, 2002, 2005, 2114] f (sf_5 f x k) := by
  unfold sf_5 cf_68_5_0 cf_0_5_0 cf_43_5_0 cf_43_5_1 cf_43_5_2 cf_43_5_3 cf_43_5_4
  repeat (refine kp_up ?_ rfl)
  exact kp_re _ _
set_option maxRecDepth 4000 in
theorem bz_sf5 (f : FI) (x k : Int32) (h : ∀ j, f (21, 14, 0) j = 0) : bz 14 (sf_5 f x k) := by
  unfold sf_5 cf_68_5_0
  repeat (refine bz_up ?_ (Or.inr rfl))
  refine bz_kp (L := [100, 700, 701, 800, 2001, 2002, 2005]) (fi := f) (fun j => Or.inl (h j)) ?_ rfl
  unfold cf_0_5_0 cf_43_5_0 cf_43_5_1 cf_43_5_2 cf_43_5_3 cf_43_5_4
  repeat (refine kp_up ?_ rfl)
  exact kp_re _ _
set_option maxRecDepth 4000 in
theorem t_0_5 {L K : Nat} {xs : Nat → Int32} {x k : Int32} (e1 : (if k < (1 : Int32) then (3 : Int32) else (if (8 : Int32) < k then (3 : Int32) else k)) = nI K) (e2 : (if k < (1 : Int32) then (3 : Int32) else (if k ≤ (8 : Int32) then k else (3 : Int32))) = nI K) : Tn 5 K L xs 171 1677 0 (171, 1677) (sf_5 (f0 xs) x k) (sl_5 l0) (sq_5 r0) := by
  have kk := k_sf5 (f0 xs) x k
  have h14 : ∀ j, (f0 xs) (21, 14, 0) j = 0 := fun j => f0_z (by simp) j
  have hb : ∀ F, bz F (f0 xs) := fun F j => Or.inl (f0_z (by simp) j)
  refine ⟨⟨sh_ok5 L, by decide +kernel, Nat.le_refl _, Nat.le_refl _⟩, ⟨fun a ha => ?_, rfl⟩, ⟨bz_sf5 _ x k h14, bz_kp (hb 27) kk rfl, bz_kp (hb 29) kk rfl, bz_kp (hb 34) kk rfl⟩, fun j hj => ?_, 0, Nat.le_refl _, ?_⟩
  · exact (match a, ha with
    | 0, _ => ⟨rfl, rfl⟩
    | 1, _ => ⟨rfl, rfl⟩
    | 2, _ => ⟨rfl, rfl⟩
    | 3, _ => ⟨rfl, rfl⟩
    | 4, _ => ⟨rfl, rfl⟩ : (sf_5 (f0 xs) x k) (7, a, 0) 0 = nI a ∧ (sf_5 (f0 xs) x k) (7, a, 0) 1 = nI 5)
  · rw [kk (40, 0, 0) j rfl]
    exact if_pos rfl
  · refine rel_0 (by decide) kk ?_ ?_ rfl (fun a ha => ?_) (fun j hj => ?_) rfl
    · exact e1
    · exact e2
    · exact (match a, ha with
    | 0, _ => ⟨rfl, rfl, rfl, rfl⟩
    | 1, _ => ⟨rfl, rfl, rfl, rfl⟩
    | 2, _ => ⟨rfl, rfl, rfl, rfl⟩
    | 3, _ => ⟨rfl, rfl, rfl, rfl⟩
    | 4, _ => ⟨rfl, rfl, rfl, rfl⟩ : (sf_5 (f0 xs) x k) (8, a, 0) 0 = 0 ∧ (sf_5 (f0 xs) x k) (8, a, 0) 1 = 0 ∧ (sf_5 (f0 xs) x k) (8, a, 0) 2 = sp_1 (nI 5) ∧ (sf_5 (f0 xs) x k) (8, a, 0) 3 = 0)
    · exact (match j, hj with
    | 0, _ => rfl
    | 1, _ => rfl
    | 2, _ => rfl
    | 3, _ => rfl
    | 4, _ => rfl
    | 5, _ => rfl
    | 6, _ => rfl
    | 7, _ => rfl
    | 8, _ => rfl
    | 9, _ => rfl
    | 10, _ => rfl
    | 11, _ => rfl
    | 12, _ => rfl
    | 13, _ => rfl
    | 14, _ => rfl
    | 15, _ => rfl
    | 16, _ => rfl
    | 17, _ => rfl
    | 18, _ => rfl
    | 19, _ => rfl
    | 20, _ => rfl
    | 21, _ => rfl
    | 22, _ => rfl
    | 23, _ => rfl
    | 24, _ => rfl
    | 25, _ => rfl
    | 26, _ => rfl
    | 27, _ => rfl
    | 28, _ => rfl
    | 29, _ => rfl
    | 30, _ => rfl
    | 31, _ => rfl
    | 32, _ => rfl
    | 33, _ => rfl
    | 34, _ => rfl
    | 35, _ => rfl
    | j + 36, hj => absurd hj (by omega) : (sf_5 (f0 xs) x k) (21, 14, 0) j = 1)
set_option maxRecDepth 4000 in
theorem xz_5 {L : Nat} {xs : Nat → Int32} (hL : L ≤ 2562) (hN : (if (if 0 < L then (f0 xs) (40, 0, 0) 0 else 0) < (4 : Int32) then (4 : Int32) else (if (6 : Int32) < (if 0 < L then (f0 xs) (40, 0, 0) 0 else 0) then (4 : Int32) else (if 0 < L then (f0 xs) (40, 0, 0) 0 else 0))) = (5 : Int32)) (hM : (if (if 0 < L then (f0 xs) (40, 0, 0) 0 else 0) < (4 : Int32) then (4 : Int32) else (if (if 0 < L then (f0 xs) (40, 0, 0) 0 else 0) ≤ (6 : Int32) then (if 0 < L then (f0 xs) (40, 0, 0) 0 else 0) else (4 : Int32))) = (5 : Int32)) : xz_P L xs := by
  obtain ⟨K, hK, hK8, e1, e2⟩ := kk_of (if 1 < L then (f0 xs) (40, 0, 0) 1 else 0)
  obtain ⟨R, r1, r2, r3, r4⟩ := lw_loop (n := 5) (K := K) (L := L) (P := 171) (Q := 1677) (xs := xs) (by decide) en_nd5 hL hK hK8 (L + 1) 0 2 (171, 1677) _ _ _ (by omega) (by omega) (by omega) (t_0_5 (x := (if 0 < L then (f0 xs) (40, 0, 0) 0 else 0)) e1 e2)
  have g := lw_start_5 (L := L) (fi := f0 xs) (fl := l0) (r := r0) (R := R) (by omega) rfl rfl hN hM r4
  obtain ⟨f, hf⟩ := g
  exact ⟨en 5 L, ((0, 0), f0 xs, l0, r0), f, R, (40, 0, 0), en_Eok en_nd5, en_sc, en_110 (by decide +kernel), rfl, fun a ha k => ⟨f0_z (fun z => ha (by rw [z]; rfl)) k, rfl, rfl⟩, fun j hj => (if_pos rfl : f0 xs (40, 0, 0) j = xs j), hf, r1, Nat.le_trans r2 (by omega), Nat.le_trans r3 (by omega)⟩
set_option maxRecDepth 4000 in
theorem sh_ok6 (L : Nat) : sh 6 (en 6 L) (210, 1916) (sq_6 r0) := by
  refine ⟨⟨by decide, by decide⟩, fun q hq => ?_, fun q hq => ?_⟩
  · exact en_ok (List.all_eq_true.mp (by decide +kernel : (sh_l 6).all (fun q => en_kb 6 q.1 q.2.1 q.2.2 && en_pb 6 q.1 210) = true) q hq)
  · exact of_decide_eq_true (List.all_eq_true.mp (by decide +kernel : (sh_r 6).all (fun q => decide (sq_6 r0 q.1 q.2.1 = some q.2.2)) = true) q hq)
set_option maxRecDepth 4000 in
theorem k_sf6 (f : FI) (x k : Int32) : kp [100, 700, 701, 800, 2001, 2002, 2005, 2114] f (sf_6 f x k) := by
  unfold sf_6 cf_68_6_0 cf_0_6_0 cf_43_6_0 cf_43_6_1 cf_43_6_2 cf_43_6_3 cf_43_6_4 cf_43_6_5
  repeat (refine kp_up ?_ rfl)
  exact kp_re _ _
set_option maxRecDepth 4000 in
theorem bz_sf6 (f : FI) (x k : Int32) (h : ∀ j, f (21, 14, 0) j = 0) : bz 14 (sf_6 f x k) := by
  unfold sf_6 cf_68_6_0
  repeat (refine bz_up ?_ (Or.inr rfl))
  refine bz_kp (L := [100, 700, 701, 800, 2001, 2002, 2005]) (fi := f) (fun j => Or.inl (h j)) ?_ rfl
  unfold cf_0_6_0 cf_43_6_0 cf_43_6_1 cf_43_6_2 cf_43_6_3 cf_43_6_4 cf_43_6_5
  repeat (refine kp_up ?_ rfl)
  exact kp_re _ _
set_option maxRecDepth 4000 in
theorem t_0_6 {L K : Nat} {xs : Nat → Int32} {x k : Int32} (e1 : (if k < (1 : Int32) then (3 : Int32) else (if (8 : Int32) < k then (3 : Int32) else k)) = nI K) (e2 : (if k < (1 : Int32) then (3 : Int32) else (if k ≤ (8 : Int32) then k else (3 : Int32))) = nI K) : Tn 6 K L xs 210 1916 0 (210, 1916) (sf_6 (f0 xs) x k) (sl_6 l0) (sq_6 r0) := by
  have kk := k_sf6 (f0 xs) x k
  have h14 : ∀ j, (f0 xs) (21, 14, 0) j = 0 := fun j => f0_z (by simp) j
  have hb : ∀ F, bz F (f0 xs) := fun F j => Or.inl (f0_z (by simp) j)
  refine ⟨⟨sh_ok6 L, by decide +kernel, Nat.le_refl _, Nat.le_refl _⟩, ⟨fun a ha => ?_, rfl⟩, ⟨bz_sf6 _ x k h14, bz_kp (hb 27) kk rfl, bz_kp (hb 29) kk rfl, bz_kp (hb 34) kk rfl⟩, fun j hj => ?_, 0, Nat.le_refl _, ?_⟩
  · exact (match a, ha with
    | 0, _ => ⟨rfl, rfl⟩
    | 1, _ => ⟨rfl, rfl⟩
    | 2, _ => ⟨rfl, rfl⟩
    | 3, _ => ⟨rfl, rfl⟩
    | 4, _ => ⟨rfl, rfl⟩
    | 5, _ => ⟨rfl, rfl⟩ : (sf_6 (f0 xs) x k) (7, a, 0) 0 = nI a ∧ (sf_6 (f0 xs) x k) (7, a, 0) 1 = nI 6)
  · rw [kk (40, 0, 0) j rfl]
    exact if_pos rfl
  · refine rel_0 (by decide) kk ?_ ?_ rfl (fun a ha => ?_) (fun j hj => ?_) rfl
    · exact e1
    · exact e2
    · exact (match a, ha with
    | 0, _ => ⟨rfl, rfl, rfl, rfl⟩
    | 1, _ => ⟨rfl, rfl, rfl, rfl⟩
    | 2, _ => ⟨rfl, rfl, rfl, rfl⟩
    | 3, _ => ⟨rfl, rfl, rfl, rfl⟩
    | 4, _ => ⟨rfl, rfl, rfl, rfl⟩
    | 5, _ => ⟨rfl, rfl, rfl, rfl⟩ : (sf_6 (f0 xs) x k) (8, a, 0) 0 = 0 ∧ (sf_6 (f0 xs) x k) (8, a, 0) 1 = 0 ∧ (sf_6 (f0 xs) x k) (8, a, 0) 2 = sp_1 (nI 6) ∧ (sf_6 (f0 xs) x k) (8, a, 0) 3 = 0)
    · exact (match j, hj with
    | 0, _ => rfl
    | 1, _ => rfl
    | 2, _ => rfl
    | 3, _ => rfl
    | 4, _ => rfl
    | 5, _ => rfl
    | 6, _ => rfl
    | 7, _ => rfl
    | 8, _ => rfl
    | 9, _ => rfl
    | 10, _ => rfl
    | 11, _ => rfl
    | 12, _ => rfl
    | 13, _ => rfl
    | 14, _ => rfl
    | 15, _ => rfl
    | 16, _ => rfl
    | 17, _ => rfl
    | 18, _ => rfl
    | 19, _ => rfl
    | 20, _ => rfl
    | 21, _ => rfl
    | 22, _ => rfl
    | 23, _ => rfl
    | 24, _ => rfl
    | 25, _ => rfl
    | 26, _ => rfl
    | 27, _ => rfl
    | 28, _ => rfl
    | 29, _ => rfl
    | 30, _ => rfl
    | 31, _ => rfl
    | 32, _ => rfl
    | 33, _ => rfl
    | 34, _ => rfl
    | 35, _ => rfl
    | j + 36, hj => absurd hj (by omega) : (sf_6 (f0 xs) x k) (21, 14, 0) j = 1)
set_option maxRecDepth 4000 in
theorem xz_6 {L : Nat} {xs : Nat → Int32} (hL : L ≤ 2562) (hN : (if (if 0 < L then (f0 xs) (40, 0, 0) 0 else 0) < (4 : Int32) then (4 : Int32) else (if (6 : Int32) < (if 0 < L then (f0 xs) (40, 0, 0) 0 else 0) then (4 : Int32) else (if 0 < L then (f0 xs) (40, 0, 0) 0 else 0))) = (6 : Int32)) (hM : (if (if 0 < L then (f0 xs) (40, 0, 0) 0 else 0) < (4 : Int32) then (4 : Int32) else (if (if 0 < L then (f0 xs) (40, 0, 0) 0 else 0) ≤ (6 : Int32) then (if 0 < L then (f0 xs) (40, 0, 0) 0 else 0) else (4 : Int32))) = (6 : Int32)) : xz_P L xs := by
  obtain ⟨K, hK, hK8, e1, e2⟩ := kk_of (if 1 < L then (f0 xs) (40, 0, 0) 1 else 0)
  obtain ⟨R, r1, r2, r3, r4⟩ := lw_loop (n := 6) (K := K) (L := L) (P := 210) (Q := 1916) (xs := xs) (by decide) en_nd6 hL hK hK8 (L + 1) 0 2 (210, 1916) _ _ _ (by omega) (by omega) (by omega) (t_0_6 (x := (if 0 < L then (f0 xs) (40, 0, 0) 0 else 0)) e1 e2)
  have g := lw_start_6 (L := L) (fi := f0 xs) (fl := l0) (r := r0) (R := R) (by omega) rfl rfl hN hM r4
  obtain ⟨f, hf⟩ := g
  exact ⟨en 6 L, ((0, 0), f0 xs, l0, r0), f, R, (40, 0, 0), en_Eok en_nd6, en_sc, en_110 (by decide +kernel), rfl, fun a ha k => ⟨f0_z (fun z => ha (by rw [z]; rfl)) k, rfl, rfl⟩, fun j hj => (if_pos rfl : f0 xs (40, 0, 0) j = xs j), hf, r1, Nat.le_trans r2 (by omega), Nat.le_trans r3 (by omega)⟩
set_option maxRecDepth 4000 in
theorem xz_all (L : Nat) (xs : Nat → Int32) (hL : L ≤ 2562) : xz_P L xs := by
  generalize hx : (if 0 < L then (f0 xs) (40, 0, 0) 0 else 0) = x
  rcases Classical.em (x < (4 : Int32)) with h | h
  · exact xz_4 hL (by rw [hx, if_pos h]) (by rw [hx, if_pos h])
  rcases Classical.em ((6 : Int32) < x) with h2 | h2
  · exact xz_4 hL (by rw [hx, if_neg h, if_pos h2]) (by rw [hx, if_neg h, if_neg (Int32.not_le.mpr h2)])
  · have h3 : ¬ x < 0 := by
      rw [Int32.lt_iff_toInt_lt, show (4 : Int32).toInt = 4 from rfl] at h
      rw [Int32.lt_iff_toInt_lt, show (0 : Int32).toInt = 0 from rfl]
      omega
    obtain ⟨m, hm, e⟩ := nI_of h3
    have h' := h
    have h2' := h2
    rw [e, Int32.lt_iff_toInt_lt, show (4 : Int32).toInt = 4 from rfl, nI_toInt hm] at h'
    rw [e, Int32.lt_iff_toInt_lt, show (6 : Int32).toInt = 6 from rfl, nI_toInt hm] at h2'
    have hc : m = 4 ∨ m = 5 ∨ m = 6 := by omega
    rcases hc with rfl | rfl | rfl
    · exact xz_4 hL (by rw [hx, if_neg h, if_neg h2, e]; rfl) (by rw [hx, if_neg h, if_pos (Int32.not_lt.mp h2), e]; rfl)
    · exact xz_5 hL (by rw [hx, if_neg h, if_neg h2, e]; rfl) (by rw [hx, if_neg h, if_pos (Int32.not_lt.mp h2), e]; rfl)
    · exact xz_6 hL (by rw [hx, if_neg h, if_neg h2, e]; rfl) (by rw [hx, if_neg h, if_pos (Int32.not_lt.mp h2), e]; rfl)
