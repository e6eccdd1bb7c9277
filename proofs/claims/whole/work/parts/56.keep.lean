/-! One turn of the law keeps the two alike. -/
def QQ (n : Nat) (f : FI) (fl : FL) (g : FI) (gl : FL) : Prop := (∀ p, p < n → f (3, 0, 0) p = g (21, 9, 0) p) ∧ (∀ p, p < n → fl (4, 0, 0) p = gl (21, 10, 0) p) ∧ f (2, 0, 0) 3 = g (20, 0, 0) 23 ∧ (∀ p, p ≤ n → f (5, 0, 0) p = g (21, 24, 0) p)
set_option maxRecDepth 4000 in
theorem no_of {A L : List Nat} (e : A.all (fun x => !L.contains x) = true) {x : Nat} (h : A.contains x = true) : L.contains x = false := by
  have := List.all_eq_true.mp e x (List.contains_iff_mem.mp h)
  rw [Bool.not_eq_true'] at this
  exact this
set_option maxRecDepth 4000 in
theorem GN_kp {f f' g g' : FI} {fl fl' : FL} {L M : List Nat} (h : GN f fl g) (k1 : kp L f f') (e1 : [101].all (fun x => !L.contains x) = true) (k2 : kp M g g') (e2 : [2004, 2005, 2006, 2007].all (fun x => !M.contains x) = true) (hl : ∀ k, fl' (1, 0, 0) k = fl (1, 0, 0) k) : GN f' fl' g' := by
  unfold GN
  rw [k1 (1, 0, 0) 1 (no_of e1 rfl), hl 2, hl 3, hl 4, k2 (20, 0, 0) 4 (no_of e2 rfl), k2 (20, 0, 0) 5 (no_of e2 rfl), k2 (20, 0, 0) 6 (no_of e2 rfl), k2 (20, 0, 0) 7 (no_of e2 rfl)]
  exact h
set_option maxRecDepth 4000 in
theorem RD_kp {n : Nat} {f f' g g' : FI} {L M : List Nat} (h : RD n f g) (k1 : kp L f f') (e1 : L.contains 702 = false) (k2 : kp M g g') (e2 : M.contains 2108 = false) : RD n f' g' := fun p hp => by
  rw [k1 (7, p, 0) 2 e1, k2 (21, 8, 0) p e2]
  exact h p hp
set_option maxRecDepth 4000 in
theorem QQ_kp {n : Nat} {f f' g g' : FI} {fl fl' gl gl' : FL} {L M : List Nat} (h : QQ n f fl g gl) (k1 : kp L f f') (e1 : [203, 300, 500].all (fun x => !L.contains x) = true) (k2 : kp M g g') (e2 : [2023, 2109, 2124].all (fun x => !M.contains x) = true) (hl : ∀ k, fl' (4, 0, 0) k = fl (4, 0, 0) k) (hgl : ∀ k, gl' (21, 10, 0) k = gl (21, 10, 0) k) : QQ n f' fl' g' gl' := by
  refine ⟨fun p hp => ?_, fun p hp => ?_, ?_, fun p hp => ?_⟩
  · rw [k1 (3, 0, 0) p (no_of e1 rfl), k2 (21, 9, 0) p (no_of e2 rfl)]
    exact h.1 p hp
  · rw [hl, hgl]
    exact h.2.1 p hp
  · rw [k1 (2, 0, 0) 3 (no_of e1 rfl), k2 (20, 0, 0) 23 (no_of e2 rfl)]
    exact h.2.2.1
  · rw [k1 (5, 0, 0) p (no_of e1 rfl), k2 (21, 24, 0) p (no_of e2 rfl)]
    exact h.2.2.2 p hp
set_option maxRecDepth 4000 in
theorem NR_mv {n a : Nat} {f f' g g' : FI} (h : NR n a f g) (hY : SY n a f' g') (h3 : f' (7, a, 0) 3 = f (7, a, 0) 3) (h10 : f' (7, a, 0) 10 = f (7, a, 0) 10) (h11 : f' (7, a, 0) 11 = f (7, a, 0) 11) (h12 : f' (7, a, 0) 12 = f (7, a, 0) 12) (hr : ∀ o, rl f g 16 1 a o (6 * a + o) → rl f' g' 16 1 a o (6 * a + o)) (g11 : g' (21, 11, 0) a = g (21, 11, 0) a) (g18 : g' (21, 18, 0) a = g (21, 18, 0) a) (g19 : g' (21, 19, 0) a = g (21, 19, 0) a) (g20 : g' (21, 20, 0) a = g (21, 20, 0) a) : NR n a f' g' := by
  obtain ⟨x1, x2, x3, x4, x5, x6, x7, x8⟩ := h
  unfold NR
  rw [h3, h10, h11, h12, g11, g18, g19, g20]
  exact ⟨hY, x2, x3, x4, x5, x6, fun z o ho => hr o (x7 z o ho), x8⟩
set_option maxRecDepth 4000 in
theorem NR_kp {n a : Nat} {f f' g g' : FI} {L M : List Nat} (h : NR n a f g) (k1 : kp L f f') (e1 : [703, 710, 711, 712, 800, 900, 1000].all (fun x => !L.contains x) = true) (k2 : kp M g g') (e2 : [2111, 2112, 2113, 2114, 2115, 2116, 2117, 2118, 2119, 2120].all (fun x => !M.contains x) = true) : NR n a f' g' := by
  refine NR_mv h (SY_kk h.1 k1 (no_of e1 rfl) k2 ?_) (k1 (7, a, 0) 3 (no_of e1 rfl)) (k1 (7, a, 0) 10 (no_of e1 rfl)) (k1 (7, a, 0) 11 (no_of e1 rfl)) (k1 (7, a, 0) 12 (no_of e1 rfl)) (fun o x => rl_mv x (h_kp k1 (no_of e1 rfl) _ _ _) (k1 (10, a, 1) o (no_of e1 rfl)) (k2 (21, 16, 0) _ (no_of e2 rfl)) (k2 (21, 17, 0) _ (no_of e2 rfl))) (k2 (21, 11, 0) a (no_of e2 rfl)) (k2 (21, 18, 0) a (no_of e2 rfl)) (k2 (21, 19, 0) a (no_of e2 rfl)) (k2 (21, 20, 0) a (no_of e2 rfl))
  rw [no_of (x := 2112) e2 rfl, no_of (x := 2113) e2 rfl, no_of (x := 2114) e2 rfl, no_of (x := 2115) e2 rfl]
  rfl
set_option maxRecDepth 4000 in
theorem Rel_of {n K ρ : Nat} {f f' g g' : FI} {fl fl' gl gl' : FL} {L M : List Nat} (h : Rel n K f fl g gl ρ) (k1 : kp L f f') (e1 : [4, 5, 6, 100].all (fun x => !L.contains x) = true) (k2 : kp M g g') (e2 : [2002, 2003, 2021, 2022].all (fun x => !M.contains x) = true) (hG : GN f' fl' g') (hD : RD n f' g') (hQ : QQ n f' fl' g' gl') (hN : ∀ a, a < n → NR n a f' g') : Rel n K f' fl' g' gl' ρ := by
  obtain ⟨-, x2, -, -, x5, x6, -⟩ := h
  refine ⟨hG, ?_, hD, hQ, ?_, ?_, hN⟩
  · rw [k1 (1, 0, 0) 0 (no_of e1 rfl), k2 (20, 0, 0) 2 (no_of e2 rfl)]
    exact x2
  · rw [k1 (0, 0, 0) 4 (no_of e1 rfl), k2 (20, 0, 0) 3 (no_of e2 rfl)]
    exact x5
  · rw [k1 (0, 0, 0) 5 (no_of e1 rfl), k1 (0, 0, 0) 6 (no_of e1 rfl), k2 (20, 0, 0) 21 (no_of e2 rfl), k2 (20, 0, 0) 22 (no_of e2 rfl)]
    exact x6
set_option maxRecDepth 4000 in
theorem all_sub {A B : List Nat} {L : List Nat} (e : B.all (fun x => !L.contains x) = true) (h : A.all (fun x => B.contains x) = true) : A.all (fun x => !L.contains x) = true := by
  rw [List.all_eq_true]
  intro x hx
  rw [no_of e (List.all_eq_true.mp h x hx)]
  rfl
set_option maxRecDepth 4000 in
theorem Rel_kp {n K ρ : Nat} {f f' g g' : FI} {fl fl' gl gl' : FL} {L M : List Nat} (h : Rel n K f fl g gl ρ) (k1 : kp L f f') (e1 : [4, 5, 6, 100, 101, 203, 300, 500, 702, 703, 710, 711, 712, 800, 900, 1000].all (fun x => !L.contains x) = true) (k2 : kp M g g') (e2 : [2002, 2003, 2004, 2005, 2006, 2007, 2021, 2022, 2023, 2108, 2109, 2111, 2112, 2113, 2114, 2115, 2116, 2117, 2118, 2119, 2120, 2124].all (fun x => !M.contains x) = true) (hl : ∀ k, fl' (1, 0, 0) k = fl (1, 0, 0) k ∧ fl' (4, 0, 0) k = fl (4, 0, 0) k) (hgl : ∀ k, gl' (21, 10, 0) k = gl (21, 10, 0) k) : Rel n K f' fl' g' gl' ρ :=
  Rel_of h k1 (all_sub e1 rfl) k2 (all_sub e2 rfl) (GN_kp h.1 k1 (all_sub e1 rfl) k2 (all_sub e2 rfl) (fun k => (hl k).1)) (RD_kp h.2.2.1 k1 (no_of e1 rfl) k2 (no_of e2 rfl)) (QQ_kp h.2.2.2.1 k1 (all_sub e1 rfl) k2 (all_sub e2 rfl) (fun k => (hl k).2) hgl) (fun a ha => NR_kp (h.2.2.2.2.2.2 a ha) k1 (all_sub e1 rfl) k2 (all_sub e2 rfl))
/-- what holds at the head of the law's loop -/
def Tn (n K L : Nat) (xs : Nat → Int32) (P Q t : Nat) (c : Nat × Nat) (fi : FI) (fl : FL) (r : xm_I → Nat → Option xm_I) : Prop := (sh n (en n L) c r ∧ (sh_l n).length ≤ c.1 ∧ c.1 ≤ P + t ∧ c.2 ≤ Q + 6 * t) ∧ fz n fi ∧ BZ fi ∧ (∀ j, j < L → fi (40, 0, 0) j = xs j) ∧ ∃ ρ, ρ ≤ 4 * t ∧ Rel n K fi fl fi fl ρ
set_option maxRecDepth 4000 in
theorem T_rel {n K L P Q t : Nat} {xs : Nat → Int32} {c : Nat × Nat} {fi fi' : FI} {fl fl' : FL} {r : xm_I → Nat → Option xm_I} {A : List Nat} (h : Tn n K L xs P Q t c fi fl r) (k : kp A fi fi') (e : [700, 701, 2001, 2114, 2127, 2129, 2134, 4000].all (fun x => !A.contains x) = true) (hR : ∀ ρ, Rel n K fi fl fi fl ρ → Rel n K fi' fl' fi' fl' ρ) : Tn n K L xs P Q (t + 1) c fi' fl' r := by
  obtain ⟨⟨s1, s2, s3, s4⟩, hf, hB, hxs, ρ, hρ, hR0⟩ := h
  exact ⟨⟨s1, s2, by omega, by omega⟩, fz_kp hf k (no_of e rfl) (no_of e rfl) (no_of e rfl), BZ_kp hB k (no_of e rfl) (no_of e rfl) (no_of e rfl) (no_of e rfl), fun j hj => (k (40, 0, 0) j (no_of e rfl)).trans (hxs j hj), ρ, by omega, hR ρ hR0⟩
set_option maxRecDepth 4000 in
theorem T_pl {n K L P Q t : Nat} {xs : Nat → Int32} {c : Nat × Nat} {fi : FI} {fl : FL} {r : xm_I → Nat → Option xm_I} (h : Tn n K L xs P Q t c fi fl r) (v : Int32) (w : Int64) : Tn n K L xs P Q (t + 1) c (xm_up fi (20, 0, 0) 0 v) (xm_up fl (30, 0, 0) 0 w) r := by
  have k : kp [2000] fi (xm_up fi (20, 0, 0) 0 v) := kp_up (kp_re _ _) rfl
  exact T_rel h k rfl (fun ρ hR => Rel_kp hR k rfl k rfl (fun j => ⟨up_ne _ _ (by simp), up_ne _ _ (by simp)⟩) (fun j => up_ne _ _ (by simp)))
set_option maxRecDepth 4000 in
theorem T_p0 {n K L P Q t : Nat} {xs : Nat → Int32} {c : Nat × Nat} {fi : FI} {fl : FL} {r : xm_I → Nat → Option xm_I} (h : Tn n K L xs P Q t c fi fl r) (v : Int32) : Tn n K L xs P Q (t + 1) c (xm_up fi (20, 0, 0) 0 v) fl r := by
  have k : kp [2000] fi (xm_up fi (20, 0, 0) 0 v) := kp_up (kp_re _ _) rfl
  exact T_rel h k rfl (fun ρ hR => Rel_kp hR k rfl k rfl (fun j => ⟨rfl, rfl⟩) (fun j => rfl))
set_option maxRecDepth 4000 in
theorem T_id {n K L P Q t : Nat} {xs : Nat → Int32} {c : Nat × Nat} {fi : FI} {fl : FL} {r : xm_I → Nat → Option xm_I} (h : Tn n K L xs P Q t c fi fl r) : Tn n K L xs P Q (t + 1) c fi fl r := T_rel h (kp_re [] fi) rfl (fun ρ hR => hR)
set_option maxRecDepth 4000 in
theorem T_th {n K L P Q t : Nat} {xs : Nat → Int32} {c : Nat × Nat} {fi : FI} {fl : FL} {r : xm_I → Nat → Option xm_I} (h : Tn n K L xs P Q t c fi fl r) (v : Int32) : Tn n K L xs P Q (t + 1) (c.1 + 1, c.2 + 6) (xm_up fi (20, 0, 0) 0 v) fl r := by
  have k : kp [2000] fi (xm_up fi (20, 0, 0) 0 v) := kp_up (kp_re _ _) rfl
  obtain ⟨⟨s1, s2, s3, s4⟩, hf, hB, hxs, ρ, hρ, hR0⟩ := h
  exact ⟨⟨sh_up s1, Nat.le_succ_of_le s2, (by omega : c.1 + 1 ≤ P + (t + 1)), (by omega : c.2 + 6 ≤ Q + 6 * (t + 1))⟩, fz_kp hf k rfl rfl rfl, BZ_kp hB k rfl rfl rfl rfl, fun j hj => (k (40, 0, 0) j rfl).trans (hxs j hj), ρ, by omega, Rel_kp hR0 k rfl k rfl (fun j => ⟨rfl, rfl⟩) (fun j => rfl)⟩
set_option maxRecDepth 4000 in
theorem nd_of (n : Nat) (hn : n ≤ 6) (x : Int32) : (∃ p, p < n ∧ x = nI p) ∨ (bI (sp_8 n x) = 0 ∧ ¬ bI (sp_99 n x) = 0) := by
  rcases Classical.em (x < 0) with h | h
  · refine Or.inr ⟨?_, ?_⟩
    · unfold sp_8
      rw [if_pos h]
      rfl
    · unfold sp_99
      rw [if_pos h]
      decide
  · obtain ⟨j, hj, e⟩ := nI_of h
    rcases Nat.lt_or_ge j n with hjn | hjn
    · exact Or.inl ⟨j, hjn, e⟩
    · refine Or.inr ⟨?_, ?_⟩
      · unfold sp_8
        rw [if_neg h, if_pos (by rw [e]; exact nI_le hjn hj)]
        rfl
      · unfold sp_99
        rw [if_neg h, if_neg (by rw [e]; exact nI_nlt hjn hj)]
        decide
set_option maxRecDepth 4000 in
theorem lgu {fl : FL} {v w : Int64} (h : v = w) : lg_cmp ((xm_up fl (30, 0, 0) 0 v) (30, 0, 0) 0) w = 0 := lg_0.mpr ((up_eq _ _ _ _).trans h)
set_option maxRecDepth 4000 in
/-- the same state, for both -/
theorem same_eq {n p o : Nat} {f : FI} (hn : n ≤ 6) (h1 : NR n p f f) (h2 : NR n o f f) : (sp_111 n f p o).1 = sp_60 f p o ∧ (sp_111 n f p o).2 = xm_up f (20, 0, 0) 0 0 := by
  have k : kp [2000] f (xm_up f (20, 0, 0) 0 (0 : Int32)) := kp_up (kp_re _ _) rfl
  have q1 : ∀ i, i < 4 → sp_93 n (xm_up f (20, 0, 0) 0 (0 : Int32)) p i = f (8, p, 0) i := fun i hi => (c_93 k rfl).trans (p_93 hn h1.1 hi)
  have q2 : ∀ i, i < 4 → sp_93 n (xm_up f (20, 0, 0) 0 (0 : Int32)) o i = f (8, o, 0) i := fun i hi => (c_93 k rfl).trans (p_93 hn h2.1 hi)
  have e1 : lq_it 4 (sp_111_54 n f p o) true = true ↔ ∀ i, i < 4 → f (8, p, 0) i = f (8, o, 0) i := by
    refine inv_it (N := 4) (F := sp_111_54 n f p o) (s0 := true) (R := fun i (s : Bool) => s = true ↔ ∀ j, j < i → f (8, p, 0) j = f (8, o, 0) j) ⟨fun _ j hj => absurd hj (Nat.not_lt_zero j), fun _ => rfl⟩ (fun i s hi hs => ?_)
    unfold sp_111_54
    rw [q1 i hi, q2 i hi]
    rcases Bool.eq_false_or_eq_true s with z | z
    · rw [z, if_neg (show ¬ bI true = 0 by decide)]
      have hs' := hs.mp z
      rcases Classical.em (f (8, p, 0) i = f (8, o, 0) i) with y | y
      · rw [if_pos y]
        refine ⟨fun _ j hj => ?_, fun _ => rfl⟩
        rcases Classical.em (j = i) with w | w
        · rw [w]
          exact y
        · exact hs' j (by omega)
      · rw [if_neg y]
        exact ⟨fun w => (by cases w), fun w => absurd (w i (by omega)) y⟩
    · rw [z, if_pos (show bI false = 0 from rfl)]
      refine ⟨fun w => (by cases w), fun w => ?_⟩
      have := hs.mpr (fun j hj => w j (by omega))
      rw [z] at this
      exact this
  have e2 : sp_60_36 f p o 4 0 = true ↔ ∀ i, i < 4 → f (8, p, 0) i = f (8, o, 0) i := by
    have key : ∀ m i, i + m = 4 → (sp_60_36 f p o m i = true ↔ ∀ j, i ≤ j → j < 4 → f (8, p, 0) j = f (8, o, 0) j) := by
      intro m
      induction m with
      | zero => exact fun i hi => ⟨fun _ j h1 h2 => by omega, fun _ => rfl⟩
      | succ m ih =>
        intro i hi
        unfold sp_60_36
        rcases Classical.em (f (8, p, 0) i = f (8, o, 0) i) with y | y
        · rw [if_pos y, ih (i + 1) (by omega)]
          refine ⟨fun w j h1 h2 => ?_, fun w j h1 h2 => w j (by omega) h2⟩
          rcases Classical.em (j = i) with u | u
          · rw [u]
            exact y
          · exact w j (by omega) h2
        · rw [if_neg y]
          exact ⟨fun w => (by cases w), fun w => absurd (w i (Nat.le_refl _) (by omega)) y⟩
    rw [key 4 0 (by omega)]
    exact ⟨fun h j hj => h j (by omega) hj, fun h j _ hj => h j hj⟩
  have e3 : lq_it 4 (sp_111_54 n f p o) true = sp_60_36 f p o 4 0 := by
    rcases Bool.eq_false_or_eq_true (lq_it 4 (sp_111_54 n f p o) true) with z | z
    · rw [z, e2.mpr (e1.mp z)]
    · rcases Bool.eq_false_or_eq_true (sp_60_36 f p o 4 0) with y | y
      · rw [e1.mpr (e2.mp y)] at z
        cases z
      · rw [z, y]
  have l1 := h1.2.1
  have l2 := h2.2.1
  unfold sp_111 sp_60
  rw [l1, l2]
  rcases h1.2.2.1 with a | a <;> rcases h2.2.2.1 with b | b <;> rw [a, b]
  · rw [if_pos rfl, if_pos rfl, if_pos rfl, if_pos rfl]
    exact ⟨e3, rfl⟩
  · exact ⟨rfl, rfl⟩
  · exact ⟨rfl, rfl⟩
  · exact ⟨rfl, rfl⟩
set_option maxRecDepth 4000 in
/-- rounds, side by side -/
theorem runs {n K ρ m : Nat} {f g : FI} {fl gl : FL} (hn : n ≤ 6) (hK : 0 < K) (hK8 : K < 16) (hρ : ρ + m < 2 ^ 30) (h : Rel n K f fl g gl ρ) : Rel n K (lq_it m (sp_13_20 n fl) f) fl (lq_it m (sp_70_21 n) (g, gl)).1 (lq_it m (sp_70_21 n) (g, gl)).2 (ρ + m) ∧ KL gl (lq_it m (sp_70_21 n) (g, gl)).2 := by
  refine rel_it (N := m) (F := sp_13_20 n fl) (G := sp_70_21 n) (s0 := f) (t0 := (g, gl)) (R := fun j F S => Rel n K F fl S.1 S.2 (ρ + j) ∧ KL gl S.2) ⟨h, fun _ _ _ => rfl⟩ (fun j F S hj hR => ?_)
  have q := rd_all (i := j) hn hK hK8 (show ρ + j < 2 ^ 30 by omega) hR.1
  exact ⟨q.1, KL_tr hR.2 q.2⟩
set_option maxRecDepth 4000 in
theorem run_5 {n K L P Q t m : Nat} {xs : Nat → Int32} {c : Nat × Nat} {fi : FI} {fl : FL} {r : xm_I → Nat → Option xm_I} (hn : n ≤ 6) (hK : 0 < K) (hK8 : K < 16) (hm : m ≤ 4) (ht : t < 1000000) (h : Tn n K L xs P Q t c fi fl r) : sp_69 (sp_70 n (sp_13 n fi fl m).2 (xm_up fl (30, 0, 0) 0 (((sp_13 n fi fl m).1).toInt64)) m).2.1 = (0 : Int32) ∧ lg_cmp ((sp_70 n (sp_13 n fi fl m).2 (xm_up fl (30, 0, 0) 0 (((sp_13 n fi fl m).1).toInt64)) m).2.2 (30, 0, 0) 0) (((sp_70 n (sp_13 n fi fl m).2 (xm_up fl (30, 0, 0) 0 (((sp_13 n fi fl m).1).toInt64)) m).1).toInt64) = 0 ∧ Tn n K L xs P Q (t + 1) c (sp_70 n (sp_13 n fi fl m).2 (xm_up fl (30, 0, 0) 0 (((sp_13 n fi fl m).1).toInt64)) m).2.1 (sp_70 n (sp_13 n fi fl m).2 (xm_up fl (30, 0, 0) 0 (((sp_13 n fi fl m).1).toInt64)) m).2.2 r := by
  obtain ⟨⟨s1, s2, s3, s4⟩, hf, hB, hxs, ρ, hρ, hR⟩ := h
  have k1 := kp_sp_13 n fi fl m
  have k2 := kp_sp_70 n (sp_13 n fi fl m).2 (xm_up fl (30, 0, 0) 0 (((sp_13 n fi fl m).1).toInt64)) m
  have k0 : kp [4, 5, 6, 203, 204, 205, 206, 207, 208, 209, 210, 500, 703, 710, 711, 712, 800, 900, 1000, 1300, 2000] fi (xm_up (sp_13 n fi fl m).2 (20, 0, 0) 0 (0 : Int32)) := kp_up (kp_sub k1 rfl) rfl
  have hR0 : Rel n K fi fl (xm_up (sp_13 n fi fl m).2 (20, 0, 0) 0 (0 : Int32)) (xm_up fl (30, 0, 0) 0 (((sp_13 n fi fl m).1).toInt64)) ρ := Rel_kp hR (kp_re [] fi) rfl k0 rfl (fun j => ⟨rfl, rfl⟩) (fun j => up_ne _ _ (by simp))
  obtain ⟨q, qL⟩ := runs (m := m) hn hK hK8 (by omega) hR0
  have kz : kp [2003, 2021, 2022, 2023, 2025, 2036, 2039, 2111, 2112, 2113, 2114, 2115, 2116, 2117, 2118, 2119, 2120, 2124, 2127, 2128, 2129, 2130, 2133, 2134, 2135, 2137, 2138] (xm_up (sp_13 n fi fl m).2 (20, 0, 0) 0 (0 : Int32)) (lq_it m (sp_70_21 n) ((xm_up (sp_13 n fi fl m).2 (20, 0, 0) 0 (0 : Int32)), (xm_up fl (30, 0, 0) 0 (((sp_13 n fi fl m).1).toInt64)))).1 := kp_it (p := fun (s : FI × FL) => s.1) (kp_re _ _) (fun i s => kp_sp_70_21 n i s)
  have hBz : BZ (xm_up (sp_13 n fi fl m).2 (20, 0, 0) 0 (0 : Int32)) := BZ_kp hB k0 rfl rfl rfl rfl
  have hB2 : BZ (lq_it m (sp_70_21 n) ((xm_up (sp_13 n fi fl m).2 (20, 0, 0) 0 (0 : Int32)), (xm_up fl (30, 0, 0) 0 (((sp_13 n fi fl m).1).toInt64)))).1 := BZ_it (p := fun (s : FI × FL) => s.1) hBz (fun i s hs => BZ_70_21 n i s hs)
  have e1 : (sp_13 n fi fl m).1 = nI (ρ + m) := q.2.2.2.2.1.1
  have e2 : (sp_70 n (sp_13 n fi fl m).2 (xm_up fl (30, 0, 0) 0 (((sp_13 n fi fl m).1).toInt64)) m).1 = nI (ρ + m) := q.2.2.2.2.1.2
  have lg : ∀ a k, ¬ (a = (20, 0, 0) ∧ k = 26) → ¬ (a = (30, 0, 0) ∧ k = 0) → (sp_70 n (sp_13 n fi fl m).2 (xm_up fl (30, 0, 0) 0 (((sp_13 n fi fl m).1).toInt64)) m).2.2 a k = fl a k := fun a k h1 h2 => (qL a k h1).trans (up_ne _ _ h2)
  refine ⟨?_, ?_, ?_⟩
  · show (lq_it m (sp_70_21 n) ((xm_up (sp_13 n fi fl m).2 (20, 0, 0) 0 (0 : Int32)), (xm_up fl (30, 0, 0) 0 (((sp_13 n fi fl m).1).toInt64)))).1 (20, 0, 0) 0 = 0
    rw [kz (20, 0, 0) 0 rfl, up_eq]
  · rw [lg_0, e2, show (sp_70 n (sp_13 n fi fl m).2 (xm_up fl (30, 0, 0) 0 (((sp_13 n fi fl m).1).toInt64)) m).2.2 (30, 0, 0) 0 = _ from qL (30, 0, 0) 0 (by simp), up_eq, e1]
  · refine ⟨⟨s1, s2, by omega, by omega⟩, fz_kp (fz_kp hf k1 rfl rfl rfl) k2 rfl rfl rfl, hB2, fun j hj => ?_, ρ + m, by omega, ?_⟩
    · rw [k2 (40, 0, 0) j rfl, k1 (40, 0, 0) j rfl]
      exact hxs j hj
    · have q' : Rel n K (sp_13 n fi fl m).2 fl (sp_70 n (sp_13 n fi fl m).2 (xm_up fl (30, 0, 0) 0 (((sp_13 n fi fl m).1).toInt64)) m).2.1 (sp_70 n (sp_13 n fi fl m).2 (xm_up fl (30, 0, 0) 0 (((sp_13 n fi fl m).1).toInt64)) m).2.2 (ρ + m) := q
      exact Rel_kp q' k2 rfl (kp_re [] _) rfl (fun j => ⟨lg _ _ (by simp) (by simp), lg _ _ (by simp) (by simp)⟩) (fun j => rfl)
