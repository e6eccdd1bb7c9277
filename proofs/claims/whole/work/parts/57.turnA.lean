/-! A turn of the law, for each call. -/
/-- from one head of the loop to the next -/
def NX (n L i : Nat) (s s' : xm_H) : Prop := ∀ R : xm_O, (∀ u5 u6 u7 : Option xm_V, xm_G (en n L) 8 true 145 43 [some (xm_r (40, 0, 0)), some (xm_r (0, 0, 0)), some (xm_r (20, 0, 0)), some (xm_r (30, 0, 0)), some (xm_i (nI (i + 5))), u5, u6, u7] [] s' R) → ∀ u5 u6 u7 : Option xm_V, xm_G (en n L) 8 true 145 43 [some (xm_r (40, 0, 0)), some (xm_r (0, 0, 0)), some (xm_r (20, 0, 0)), some (xm_r (30, 0, 0)), some (xm_i (nI i)), u5, u6, u7] [] s R
def TT (n K L : Nat) (xs : Nat → Int32) (P Q t i : Nat) (c : Nat × Nat) (fi : FI) (fl : FL) (r : xm_I → Nat → Option xm_I) : Prop := ∃ (c' : Nat × Nat) (fi' : FI) (fl' : FL), Tn n K L xs P Q (t + 1) c' fi' fl' r ∧ NX n L i (c, fi, fl, r) (c', fi', fl', r)
set_option maxRecDepth 4000 in
theorem tt_0 {n K L P Q t i : Nat} {xs : Nat → Int32} {c : Nat × Nat} {fi : FI} {fl : FL} {r : xm_I → Nat → Option xm_I} (hn : n ≤ 6) (h : Tn n K L xs P Q t c fi fl r) (hsc : (en n L).1 (40, 0, 0) = (110, L)) (hL : L < 100000) (hi : i + 5 ≤ L) (hx : 200 ≤ ((en n L).1 ((en n L).2.2 c.1)).1) (hop : xs i &&& 31 = 0) : TT n K L xs P Q t i c fi fl r := by
  obtain ⟨⟨hs, -⟩, hf, hB, hxs, ρ, -, hR⟩ := id h
  rcases nd_of n hn (xs (i + 1)) with ⟨p, hp, e⟩ | ⟨e1, e2⟩
  · refine ⟨_, _, _, ?_, fun R K => lw_0_v hs hf hB hsc hL hi hxs hop e hp (lgu ?_) K⟩
    · have k : kp [702, 2000, 2108] fi (xm_up (xm_up (xm_up fi (7, p, 0) 2 (xs (i + 2))) (20, 0, 0) 0 (0 : Int32)) (21, 8, 0) p (xs (i + 2))) := kp_up (kp_up (kp_up (kp_re _ _) rfl) rfl) rfl
      refine T_rel h k rfl (fun ρ hR => ?_)
      refine Rel_of hR k rfl k rfl (GN_kp hR.1 k rfl k rfl (fun j => up_ne _ _ (by simp))) (fun q hq => ?_) (QQ_kp hR.2.2.2.1 k rfl k rfl (fun j => up_ne _ _ (by simp)) (fun j => up_ne _ _ (by simp))) (fun a ha => NR_kp (hR.2.2.2.2.2.2 a ha) k rfl k rfl)
      rcases Classical.em (q = p) with z | z
      · rw [z, up_eq, up_ne _ _ (by simp), up_ne _ _ (by simp), up_eq]
      · rw [up_ne _ _ (by simp), up_ne _ _ (by simp), up_ne _ _ (by simp [z]), up_ne _ _ (fun y => z y.2), up_ne _ _ (by simp), up_ne _ _ (by simp)]
        exact hR.2.2.1 q hq
    · rw [up_ne _ _ (by simp), hR.2.2.1 p hp]
  · exact ⟨_, _, _, T_th h 1, fun R K => lw_0_i hs hf hB hsc hL hi hxs hop hx e1 e2 K⟩
set_option maxRecDepth 4000 in
theorem tt_1 {n K L P Q t i : Nat} {xs : Nat → Int32} {c : Nat × Nat} {fi : FI} {fl : FL} {r : xm_I → Nat → Option xm_I} (h : Tn n K L xs P Q t c fi fl r) (hsc : (en n L).1 (40, 0, 0) = (110, L)) (hL : L < 100000) (hi : i + 5 ≤ L) (hop : xs i &&& 31 = 1) : TT n K L xs P Q t i c fi fl r := by
  obtain ⟨⟨hs, -⟩, hf, hB, hxs, -⟩ := id h
  refine ⟨_, _, _, ?_, fun R K => lw_1_l hs hf hB hsc hL hi hxs hop K⟩
  have k : kp [101, 2000, 2004] fi (xm_up (xm_up (xm_up fi (1, 0, 0) 1 (xs (i + 1))) (20, 0, 0) 0 (0 : Int32)) (20, 0, 0) 4 (xs (i + 1))) := kp_up (kp_up (kp_up (kp_re _ _) rfl) rfl) rfl
  refine T_rel h k rfl (fun ρ hR => ?_)
  refine Rel_of hR k rfl k rfl ?_ (RD_kp hR.2.2.1 k rfl k rfl) (QQ_kp hR.2.2.2.1 k rfl k rfl (fun j => rfl) (fun j => rfl)) (fun a ha => NR_kp (hR.2.2.2.2.2.2 a ha) k rfl k rfl)
  obtain ⟨-, x2, x3, x4⟩ := hR.1
  refine ⟨?_, ?_, ?_, ?_⟩
  · rw [up_ne _ _ (by simp), up_ne _ _ (by simp), up_eq, up_eq]
  · rw [k (20, 0, 0) 5 rfl]
    exact x2
  · rw [k (20, 0, 0) 6 rfl]
    exact x3
  · rw [k (20, 0, 0) 7 rfl]
    exact x4
set_option maxRecDepth 4000 in
theorem tt_2 {n K L P Q t i : Nat} {xs : Nat → Int32} {c : Nat × Nat} {fi : FI} {fl : FL} {r : xm_I → Nat → Option xm_I} (h : Tn n K L xs P Q t c fi fl r) (hsc : (en n L).1 (40, 0, 0) = (110, L)) (hL : L < 100000) (hi : i + 5 ≤ L) (hx : 200 ≤ ((en n L).1 ((en n L).2.2 c.1)).1) (hop : xs i &&& 31 = 2) : TT n K L xs P Q t i c fi fl r := by
  obtain ⟨⟨hs, -⟩, hf, hB, hxs, -⟩ := id h
  have b0 : ∀ x : Int32, x < 0 → bI (sp_10 x) = 0 := fun x hx => by
    unfold sp_10
    rw [if_pos hx]
    rfl
  have b1 : ∀ x : Int32, ¬ x < 0 → (1048576 : Int32) < x → bI (sp_10 x) = 0 := fun x h0 h1 => by
    unfold sp_10
    rw [if_neg h0, if_pos h1]
    rfl
  have b2 : ∀ x : Int32, ¬ x < 0 → ¬ (1048576 : Int32) < x → ¬ bI (sp_10 x) = 0 := fun x h0 h1 => by
    unfold sp_10
    rw [if_neg h0, if_neg h1]
    decide
  rcases Classical.em (xs (i + 1) < 0) with c0 | c0
  · exact ⟨_, _, _, T_th h 1, fun R K => lw_2_b0 hs hf hB hsc hL hi hxs hop hx (b0 _ c0) c0 K⟩
  rcases Classical.em ((1048576 : Int32) < xs (i + 1)) with c1 | c1
  · exact ⟨_, _, _, T_th h 1, fun R K => lw_2_b1 hs hf hB hsc hL hi hxs hop hx (b1 _ c0 c1) c0 c1 K⟩
  rcases Classical.em (xs (i + 2) < 0) with c2 | c2
  · exact ⟨_, _, _, T_th h 1, fun R K => lw_2_b2 hs hf hB hsc hL hi hxs hop hx (b2 _ c0 c1) (b0 _ c2) c0 c1 c2 K⟩
  rcases Classical.em ((1048576 : Int32) < xs (i + 2)) with c3 | c3
  · exact ⟨_, _, _, T_th h 1, fun R K => lw_2_b3 hs hf hB hsc hL hi hxs hop hx (b2 _ c0 c1) (b1 _ c2 c3) c0 c1 c2 c3 K⟩
  rcases Classical.em (xs (i + 3) < 0) with c4 | c4
  · exact ⟨_, _, _, T_th h 1, fun R K => lw_2_b4 hs hf hB hsc hL hi hxs hop hx (b2 _ c0 c1) (b2 _ c2 c3) (b0 _ c4) c0 c1 c2 c3 c4 K⟩
  rcases Classical.em (xs (i + 3) ≤ (1048576 : Int32)) with c5 | c5
  · refine ⟨_, _, _, ?_, fun R K => lw_2_ok hs hf hB hsc hL hi hxs hop (b2 _ c0 c1) (b2 _ c2 c3) (b2 _ c4 (Int32.not_lt.mpr c5)) c0 c1 c2 c3 c4 c5 K⟩
    have k : kp [2000, 2005, 2006, 2007] fi (xm_up (xm_up (xm_up (xm_up fi (20, 0, 0) 0 (0 : Int32)) (20, 0, 0) 5 (xs (i + 1))) (20, 0, 0) 6 (xs (i + 2))) (20, 0, 0) 7 (xs (i + 3))) := kp_up (kp_up (kp_up (kp_up (kp_re _ _) rfl) rfl) rfl) rfl
    refine T_rel h k rfl (fun ρ hR => ?_)
    refine Rel_of hR k rfl k rfl ?_ (RD_kp hR.2.2.1 k rfl k rfl) (QQ_kp hR.2.2.2.1 k rfl k rfl (fun j => ?_) (fun j => ?_)) (fun a ha => NR_kp (hR.2.2.2.2.2.2 a ha) k rfl k rfl)
    · refine ⟨?_, ?_, ?_, ?_⟩
      · rw [k (1, 0, 0) 1 rfl, k (20, 0, 0) 4 rfl]
        exact hR.1.1
      · rw [up_ne _ _ (by simp), up_ne _ _ (by simp), up_eq, up_ne _ _ (by simp), up_ne _ _ (by simp), up_eq]
      · rw [up_ne _ _ (by simp), up_eq, up_ne _ _ (by simp), up_eq]
      · rw [up_eq, up_eq]
    · rw [up_ne _ _ (by simp), up_ne _ _ (by simp), up_ne _ _ (by simp)]
    · rw [up_ne _ _ (by simp), up_ne _ _ (by simp), up_ne _ _ (by simp)]
  · exact ⟨_, _, _, T_th h 1, fun R K => lw_2_b5 hs hf hB hsc hL hi hxs hop hx (b2 _ c0 c1) (b2 _ c2 c3) (b1 _ c4 (Int32.not_le.mp c5)) c0 c1 c2 c3 c4 c5 K⟩
set_option maxRecDepth 4000 in
theorem tt_3 {n K L P Q t i : Nat} {xs : Nat → Int32} {c : Nat × Nat} {fi : FI} {fl : FL} {r : xm_I → Nat → Option xm_I} (hn : n ≤ 6) (h : Tn n K L xs P Q t c fi fl r) (hsc : (en n L).1 (40, 0, 0) = (110, L)) (hL : L < 100000) (hi : i + 5 ≤ L) (hx : 200 ≤ ((en n L).1 ((en n L).2.2 c.1)).1) (hop : xs i &&& 31 = 3) : TT n K L xs P Q t i c fi fl r := by
  obtain ⟨⟨hs, -⟩, hf, hB, hxs, -⟩ := id h
  rcases nd_of n hn (xs (i + 1)) with ⟨p, hp, e⟩ | ⟨e1, e2⟩
  · rcases Classical.em (xs (i + 2) < 0) with c0 | c0
    · exact ⟨_, _, _, T_th h 1, fun R K => lw_3_b0 hs hf hB hsc hL hi hxs hop e hp hx c0 c0 K⟩
    rcases Classical.em (xs (i + 2) ≤ (4 : Int32)) with c1 | c1
    · refine ⟨_, _, _, ?_, fun R K => lw_3_ok hs hf hB hsc hL hi hxs hop e hp c0 c1 c0 c1 K⟩
      have k : kp [300, 2000, 2109] fi (xm_up (xm_up (xm_up fi (3, 0, 0) p (xs (i + 2))) (20, 0, 0) 0 (0 : Int32)) (21, 9, 0) p (xs (i + 2))) := kp_up (kp_up (kp_up (kp_re _ _) rfl) rfl) rfl
      refine T_rel h k rfl (fun ρ hR => ?_)
      refine Rel_of hR k rfl k rfl (GN_kp hR.1 k rfl k rfl (fun j => ?_)) (RD_kp hR.2.2.1 k rfl k rfl) ⟨fun q hq => ?_, fun q hq => ?_, ?_, fun q hq => ?_⟩ (fun a ha => NR_kp (hR.2.2.2.2.2.2 a ha) k rfl k rfl)
      · rw [up_ne _ _ (by simp), up_ne _ _ (by simp)]
      · rcases Classical.em (q = p) with z | z
        · rw [z, up_eq, up_ne _ _ (by simp), up_ne _ _ (by simp), up_eq]
        · rw [up_ne _ _ (by simp), up_ne _ _ (by simp), up_ne _ _ (fun y => z y.2), up_ne _ _ (fun y => z y.2), up_ne _ _ (by simp), up_ne _ _ (by simp)]
          exact hR.2.2.2.1.1 q hq
      · rcases Classical.em (q = p) with z | z
        · rw [z, up_eq, up_ne _ _ (by simp), up_eq]
        · rw [up_ne _ _ (by simp), up_ne _ _ (fun y => z y.2), up_ne _ _ (fun y => z y.2), up_ne _ _ (by simp)]
          exact hR.2.2.2.1.2.1 q hq
      · rw [k (2, 0, 0) 3 rfl, k (20, 0, 0) 23 rfl]
        exact hR.2.2.2.1.2.2.1
      · rw [k (5, 0, 0) q rfl, k (21, 24, 0) q rfl]
        exact hR.2.2.2.1.2.2.2 q hq
    · exact ⟨_, _, _, T_th h 1, fun R K => lw_3_b1 hs hf hB hsc hL hi hxs hop e hp hx c0 c1 c0 c1 K⟩
  · exact ⟨_, _, _, T_th h 1, fun R K => lw_3_i hs hf hB hsc hL hi hxs hop hx e1 e2 K⟩
set_option maxRecDepth 4000 in
/-- a restart, for both -/
theorem rst {n p a : Nat} {fi g : FI} (hp : p < n) (ha : a < n) (h : NR n a fi fi) (k : kp [2000, 2111, 2118, 2119] (sp_44 fi p).2 g) (g11 : ∀ q, g (21, 11, 0) q = if q = p then 1 else fi (21, 11, 0) q) (g18 : ∀ q, g (21, 18, 0) q = if q = p then 0 else fi (21, 18, 0) q) (g19 : ∀ q, g (21, 19, 0) q = if q = p then 0 else fi (21, 19, 0) q) : NR n a g g := by
  have k4 := kp_sp_44 fi p
  have kA : kp [703, 710, 711, 2000, 2111, 2118, 2119] fi g := kp_tr (kp_sub k4 rfl) rfl k
  have hY : SY n a g g := SY_kk h.1 kA rfl kA rfl
  rcases Classical.em (a = p) with z | z
  · subst z
    have e3 : g (7, a, 0) 3 = 1 := by
      rw [k (7, a, 0) 3 rfl]
      show (xm_up (xm_up (xm_up fi (7, a, 0) 3 (1 : Int32)) (7, a, 0) 10 (0 : Int32)) (7, a, 0) 11 (0 : Int32)) (7, a, 0) 3 = 1
      rw [up_ne _ _ (by simp), up_ne _ _ (by simp), up_eq]
    have e10 : g (7, a, 0) 10 = 0 := by
      rw [k (7, a, 0) 10 rfl]
      show (xm_up (xm_up (xm_up fi (7, a, 0) 3 (1 : Int32)) (7, a, 0) 10 (0 : Int32)) (7, a, 0) 11 (0 : Int32)) (7, a, 0) 10 = 0
      rw [up_ne _ _ (by simp), up_eq]
    have e11 : g (7, a, 0) 11 = 0 := by
      rw [k (7, a, 0) 11 rfl]
      exact up_eq _ _ _ _
    unfold NR
    rw [e3, e10, e11, g11, g18, g19, if_pos rfl, if_pos rfl, if_pos rfl]
    exact ⟨hY, rfl, Or.inr rfl, rfl, rfl, fun y => absurd rfl y, fun y => absurd rfl y, fun _ => ⟨rfl, rfl⟩⟩
  · have e : ∀ j, (sp_44 fi p).2 (7, a, 0) j = fi (7, a, 0) j := fun j => by
      show (xm_up (xm_up (xm_up fi (7, p, 0) 3 (1 : Int32)) (7, p, 0) 10 (0 : Int32)) (7, p, 0) 11 (0 : Int32)) (7, a, 0) j = _
      rw [up_ne _ _ (by simp [z]), up_ne _ _ (by simp [z]), up_ne _ _ (by simp [z])]
    refine NR_mv h hY ((k (7, a, 0) 3 rfl).trans (e 3)) ((k (7, a, 0) 10 rfl).trans (e 10)) ((k (7, a, 0) 11 rfl).trans (e 11)) ((k (7, a, 0) 12 rfl).trans (e 12)) (fun o x => rl_mv x (h_kp kA rfl _ _ _) (kA (10, a, 1) o rfl) (kA (21, 16, 0) _ rfl) (kA (21, 17, 0) _ rfl)) ?_ ?_ ?_ (kA (21, 20, 0) a rfl)
    · rw [g11, if_neg z]
    · rw [g18, if_neg z]
    · rw [g19, if_neg z]
