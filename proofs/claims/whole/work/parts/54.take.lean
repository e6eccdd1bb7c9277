/-! States taken over, side by side. -/
set_option maxRecDepth 4000 in
theorem bt_test1 (x : Int32) {p : Nat} (hp : p < 32) : ((x >>> ((nI p) &&& 31)) &&& (1 : Int32)) = (1 : Int32) ↔ bt x p = true := by
  rcases Bool.eq_false_or_eq_true (bt x p) with h | h
  · refine ⟨fun _ => h, fun _ => ?_⟩
    apply bt_ext
    intro i hi
    rw [bt_and, bt_shr p hp x hi, bt_1 i hi]
    rcases Nat.eq_zero_or_pos i with h0 | h0
    · subst h0
      rw [if_pos (by omega), Nat.add_zero, h]
      rfl
    · rw [decide_eq_false (by omega), Bool.and_false]
  · rw [(bt_test x hp).mpr h, h]
    exact ⟨fun z => absurd z (by decide), fun z => by cases z⟩
set_option maxRecDepth 4000 in
theorem up_up {f : FI} {a : xm_I} {k : Nat} {v w : Int32} {b : xm_I} {j : Nat} : (xm_up (xm_up f a k v) a k w) b j = xm_up f a k w b j := by
  rcases Classical.em (b = a ∧ j = k) with z | z
  · rw [z.1, z.2, up_eq, up_eq]
  · rw [up_ne _ _ z, up_ne _ _ z, up_ne _ _ z]
set_option maxRecDepth 4000 in
theorem d_97s (p o : Nat) (v : Int32) {i : Nat} (hi : i < 6) (s : FI) (b : xm_I) (k : Nat) : (sp_97_44 p o v i s) b k = if b = (21, 15, 0) ∧ k = 6 * p + i then (if nI o = (3 : Int32) then ((v >>> ((nI (4 * i)) &&& 31)) &&& (15 : Int32)) else s (21, 15, 0) (6 * p + i)) else (if b = (21, 14, 0) ∧ k = 6 * p + i then (if nI o = (2 : Int32) then bI (bt v i) else s (21, 14, 0) (6 * p + i)) else s b k) := by
  have gen : ∀ x y : Int32, (xm_up (xm_up s (21, 14, 0) (6 * p + i) x) (21, 15, 0) (6 * p + i) y) b k = if b = (21, 15, 0) ∧ k = 6 * p + i then y else (if b = (21, 14, 0) ∧ k = 6 * p + i then x else s b k) := fun x y => rfl
  unfold sp_97_44
  rcases Classical.em (nI o = (2 : Int32)) with h2 | h2
  · rw [if_pos h2, if_pos h2]
    rcases Bool.eq_false_or_eq_true (bt v i) with h | h
    · rw [if_pos ((bt_test1 v (by omega)).mpr h), gen, h]
      rfl
    · rw [if_neg (fun z => by rw [(bt_test1 v (by omega)).mp z] at h; cases h), gen, h]
      rfl
  · rw [if_neg h2, if_neg h2, gen]
set_option maxRecDepth 4000 in
theorem d_97 {n : Nat} (hn : n ≤ 6) (p o : Nat) (v : Int32) (g : FI) : (sp_97 n g p o v) (21, 12, 0) p = (if nI o = 0 then v else g (21, 12, 0) p) ∧ (sp_97 n g p o v) (21, 13, 0) p = (if nI o = (1 : Int32) then v else g (21, 13, 0) p) ∧ (∀ j, j < n → (sp_97 n g p o v) (21, 14, 0) (6 * p + j) = (if nI o = (2 : Int32) then bI (bt v j) else g (21, 14, 0) (6 * p + j)) ∧ (sp_97 n g p o v) (21, 15, 0) (6 * p + j) = (if nI o = (3 : Int32) then ((v >>> ((nI (4 * j)) &&& 31)) &&& (15 : Int32)) else g (21, 15, 0) (6 * p + j))) ∧ (∀ q, ¬ q = p → (sp_97 n g p o v) (21, 12, 0) q = g (21, 12, 0) q ∧ (sp_97 n g p o v) (21, 13, 0) q = g (21, 13, 0) q ∧ ∀ j, j < 6 → (sp_97 n g p o v) (21, 14, 0) (6 * q + j) = g (21, 14, 0) (6 * q + j) ∧ (sp_97 n g p o v) (21, 15, 0) (6 * q + j) = g (21, 15, 0) (6 * q + j)) := by
  have kk : ∀ i s, kp [2114, 2115] s (sp_97_44 p o v i s) := kp_sp_97_44 p o v
  have k0 : ∀ t : FI, kp [2114, 2115] t (lq_it n (sp_97_44 p o v) t) := fun t => kp_it (p := fun (s : FI) => s) (kp_re _ _) (fun i s => kk i s)
  unfold sp_97
  generalize hg0 : xm_up (xm_up g (21, 12, 0) p (if (nI o) = 0 then v else (g (21, 12, 0) p))) (21, 13, 0) p (if (nI o) = (1 : Int32) then v else (g (21, 13, 0) p)) = g0
  have h14 : ∀ k, g0 (21, 14, 0) k = g (21, 14, 0) k := fun k => by rw [← hg0, up_ne _ _ (by simp), up_ne _ _ (by simp)]
  have h15 : ∀ k, g0 (21, 15, 0) k = g (21, 15, 0) k := fun k => by rw [← hg0, up_ne _ _ (by simp), up_ne _ _ (by simp)]
  have e := inv_it (N := n) (F := sp_97_44 p o v) (s0 := g0) (R := fun i (s : FI) => (∀ j, j < i → s (21, 14, 0) (6 * p + j) = (if nI o = (2 : Int32) then bI (bt v j) else g (21, 14, 0) (6 * p + j)) ∧ s (21, 15, 0) (6 * p + j) = (if nI o = (3 : Int32) then ((v >>> ((nI (4 * j)) &&& 31)) &&& (15 : Int32)) else g (21, 15, 0) (6 * p + j))) ∧ (∀ j, i ≤ j → s (21, 14, 0) (6 * p + j) = g (21, 14, 0) (6 * p + j) ∧ s (21, 15, 0) (6 * p + j) = g (21, 15, 0) (6 * p + j)) ∧ (∀ q j, ¬ q = p → j < 6 → s (21, 14, 0) (6 * q + j) = g (21, 14, 0) (6 * q + j) ∧ s (21, 15, 0) (6 * q + j) = g (21, 15, 0) (6 * q + j))) ⟨fun j hj => absurd hj (Nat.not_lt_zero j), fun j _ => ⟨h14 _, h15 _⟩, fun q j _ _ => ⟨h14 _, h15 _⟩⟩ ?_
  · refine ⟨?_, ?_, fun j hj => e.1 j hj, fun q hq => ⟨?_, ?_, fun j hj => e.2.2 q j hq hj⟩⟩
    · rw [k0 _ (21, 12, 0) p rfl, ← hg0, up_ne _ _ (by simp), up_eq]
    · rw [k0 _ (21, 13, 0) p rfl, ← hg0, up_eq]
    · rw [k0 _ (21, 12, 0) q rfl, ← hg0, up_ne _ _ (by simp), up_ne _ _ (fun z => hq z.2)]
    · rw [k0 _ (21, 13, 0) q rfl, ← hg0, up_ne _ _ (fun z => hq z.2), up_ne _ _ (by simp)]
  · intro i s hi hs
    obtain ⟨a1, a2, a3⟩ := hs
    have b := a2 i (Nat.le_refl _)
    have c14 : ∀ k, (sp_97_44 p o v i s) (21, 14, 0) k = if k = 6 * p + i then (if nI o = (2 : Int32) then bI (bt v i) else g (21, 14, 0) (6 * p + i)) else s (21, 14, 0) k := by
      intro k
      rw [d_97s p o v (by omega) s, if_neg (by simp), b.1]
      rcases Classical.em (k = 6 * p + i) with z | z
      · rw [if_pos z, if_pos ⟨rfl, z⟩]
      · rw [if_neg z, if_neg (fun y => z y.2)]
    have c15 : ∀ k, (sp_97_44 p o v i s) (21, 15, 0) k = if k = 6 * p + i then (if nI o = (3 : Int32) then ((v >>> ((nI (4 * i)) &&& 31)) &&& (15 : Int32)) else g (21, 15, 0) (6 * p + i)) else s (21, 15, 0) k := by
      intro k
      rw [d_97s p o v (by omega) s, b.2]
      rcases Classical.em (k = 6 * p + i) with z | z
      · rw [if_pos z, if_pos ⟨rfl, z⟩]
      · rw [if_neg z, if_neg (fun y => z y.2), if_neg (by simp)]
    refine ⟨fun j hj => ?_, fun j hj => ?_, fun q j hq hj => ?_⟩
    · rw [c14, c15]
      rcases Classical.em (j = i) with z | z
      · rw [z, if_pos rfl, if_pos rfl]
        exact ⟨rfl, rfl⟩
      · rw [if_neg (show ¬ 6 * p + j = 6 * p + i by omega), if_neg (show ¬ 6 * p + j = 6 * p + i by omega)]
        exact a1 j (by omega)
    · rw [c14, c15, if_neg (show ¬ 6 * p + j = 6 * p + i by omega), if_neg (show ¬ 6 * p + j = 6 * p + i by omega)]
      exact a2 j (by omega)
    · rw [c14, c15, if_neg (show ¬ 6 * q + j = 6 * p + i by omega), if_neg (show ¬ 6 * q + j = 6 * p + i by omega)]
      exact a3 q j hq hj
set_option maxRecDepth 4000 in
theorem and_m1 (v : Int32) : v &&& (-1 : Int32) = v := by
  apply bt_ext
  intro i hi
  rw [bt_and, bt_m1 i hi, Bool.and_true]
set_option maxRecDepth 4000 in
theorem bt_s1 : ∀ n, n < 7 → ∀ j, j < 32 → bt (sp_1 (nI n)) j = decide (j < n) := by decide +kernel
set_option maxRecDepth 4000 in
theorem bt_s4 : ∀ n, n < 7 → ∀ j, j < 32 → bt (sp_1 ((4 : Int32) * (nI n))) j = decide (j < 4 * n) := by decide +kernel
set_option maxRecDepth 4000 in
/-- a part taken over, on both sides -/
theorem SY_97 {n a o : Nat} {f g : FI} (hn : n ≤ 6) (h : SY n a f g) (ho : o < 4) (v : Int32) : SY n a (xm_up f (8, a, 0) o (v &&& sp_58 n o)) (sp_97 n g a o v) := by
  obtain ⟨s0, s1, s2, s3, s4, s5, s6⟩ := h
  obtain ⟨d1, d2, d3, -⟩ := d_97 hn a o v g
  have u : ∀ j, (xm_up f (8, a, 0) o (v &&& sp_58 n o)) (8, a, 0) j = if j = o then v &&& sp_58 n o else f (8, a, 0) j := by
    intro j
    rcases Classical.em (j = o) with z | z
    · rw [if_pos z, z, up_eq]
    · rw [if_neg z, up_ne _ _ (fun y => z y.2)]
  have c0 : nI o = (0 : Int32) ↔ o = 0 := nI_eq (b := 0) (by omega) (by omega)
  have c1 : nI o = (1 : Int32) ↔ o = 1 := nI_eq (b := 1) (by omega) (by omega)
  have c2 : nI o = (2 : Int32) ↔ o = 2 := nI_eq (b := 2) (by omega) (by omega)
  have c3 : nI o = (3 : Int32) ↔ o = 3 := nI_eq (b := 3) (by omega) (by omega)
  have m0 : ¬ o = 2 → ¬ o = 3 → v &&& sp_58 n o = v := by
    intro h2 h3
    unfold sp_58
    rw [if_neg (fun z => h2 (c2.mp z)), if_neg (fun z => h3 (c3.mp z))]
    exact and_m1 v
  have m2 : o = 2 → ∀ j, j < 32 → bt (v &&& sp_58 n o) j = (bt v j && decide (j < n)) := by
    intro h2 j hj
    unfold sp_58
    rw [if_pos (c2.mpr h2), bt_and, bt_s1 n (by omega) j hj]
  have m3 : o = 3 → ∀ j, j < 32 → bt (v &&& sp_58 n o) j = (bt v j && decide (j < 4 * n)) := by
    intro h3 j hj
    unfold sp_58
    rw [if_neg (fun z => by have := c2.mp z; omega), if_pos (c3.mpr h3), bt_and, bt_s4 n (by omega) j hj]
  have nb : ∀ j b, j < n → b < 32 → bt ((v >>> ((nI (4 * j)) &&& 31)) &&& (15 : Int32)) b = (decide (b < 4) && bt v (4 * j + b)) := by
    intro j b hj hb
    rw [bt_and, bt_shr (4 * j) (by omega) v hb, bt_15 b hb]
    rcases Nat.lt_or_ge b 4 with h4 | h4
    · rw [decide_eq_true h4, Bool.and_true, Bool.true_and, if_pos (by omega)]
    · rw [decide_eq_false (by omega), Bool.and_false, Bool.false_and]
  refine ⟨?_, ?_, fun j hj => ?_, fun j h1 h2 => ?_, fun j b hj hb => ?_, fun j b hj h4 hb => ?_, fun j h1 h2 => ?_⟩
  · rw [u, d1]
    rcases Classical.em (o = 0) with z | z
    · rw [if_pos z.symm, if_pos (c0.mpr z), m0 (by omega) (by omega)]
    · rw [if_neg (fun y => z y.symm), if_neg (fun y => z (c0.mp y)), s0]
  · rw [u, d2]
    rcases Classical.em (o = 1) with z | z
    · rw [if_pos z.symm, if_pos (c1.mpr z), m0 (by omega) (by omega)]
    · rw [if_neg (fun y => z y.symm), if_neg (fun y => z (c1.mp y)), s1]
  · rw [u, (d3 j hj).1]
    rcases Classical.em (o = 2) with z | z
    · rw [if_pos z.symm, if_pos (c2.mpr z), m2 z j (by omega), decide_eq_true hj, Bool.and_true]
    · rw [if_neg (show ¬ 2 = o from fun y => z y.symm), if_neg (fun y => z (c2.mp y))]
      exact s2 j hj
  · rw [u]
    rcases Classical.em (o = 2) with z | z
    · rw [if_pos z.symm, m2 z j h2, decide_eq_false (by omega), Bool.and_false]
    · rw [if_neg (fun y => z y.symm)]
      exact s3 j h1 h2
  · rw [u, (d3 j hj).2]
    rcases Classical.em (o = 3) with z | z
    · rw [if_pos z.symm, if_pos (c3.mpr z), m3 z _ (by omega), nb j b hj (by omega), decide_eq_true hb, Bool.true_and, decide_eq_true (show 4 * j + b < 4 * n by omega), Bool.and_true]
    · rw [if_neg (fun y => z y.symm), if_neg (fun y => z (c3.mp y))]
      exact s4 j b hj hb
  · rw [(d3 j hj).2]
    rcases Classical.em (o = 3) with z | z
    · rw [if_pos (c3.mpr z), nb j b hj hb, decide_eq_false (by omega), Bool.false_and]
    · rw [if_neg (fun y => z (c3.mp y))]
      exact s5 j b hj h4 hb
  · rw [u]
    rcases Classical.em (o = 3) with z | z
    · rw [if_pos z.symm, m3 z j h2, decide_eq_false (by omega), Bool.and_false]
    · rw [if_neg (fun y => z y.symm)]
      exact s6 j h1 h2
/-- a part as it came, on both sides -/
def OW (n a o : Nat) (f g : FI) : Prop := sp_64 f a (2 + o) a = (if g (21, 11, 0) a = 0 then true else false) ∧ (sp_64 f a (2 + o) a = true → f (10, a, 2 + o) a = g (21, 33, 0) (6 * o + a)) ∧ ∀ p, p < n → ¬ p = a → rl f g 34 (2 + o) a p (36 * o + 6 * a + p)
set_option maxRecDepth 4000 in
theorem OW_kp {n a o : Nat} {f f' g g' : FI} (h : OW n a o f g) (k1 : kp [800] f f') (k2 : kp [2036, 2039, 2112, 2113, 2114, 2115, 2137, 2138] g g') : OW n a o f' g' := by
  refine ⟨?_, ?_, fun p hp hne => rl_mv (h.2.2 p hp hne) (h_kp k1 rfl _ _ _) (k1 (10, a, 2 + o) p rfl) (k2 (21, 34, 0) _ rfl) (k2 (21, 35, 0) _ rfl)⟩
  · rw [h_kp k1 rfl, k2 (21, 11, 0) a rfl]
    exact h.1
  · rw [h_kp k1 rfl, k1 (10, a, 2 + o) a rfl, k2 (21, 33, 0) _ rfl]
    exact h.2.1
set_option maxRecDepth 4000 in
theorem w_96 {n a o : Nat} {f g : FI} (hn : n ≤ 6) (ha : a < n) (h : OW n a o f g) : (sp_66 n f a (2 + o) (sp_1 (nI n)) = (-1 : Int32) ∧ (sp_96 n g a o).1 = false) ∨ (∃ j, j < n ∧ sp_66 n f a (2 + o) (sp_1 (nI n)) = nI j ∧ ¬ sp_66 n f a (2 + o) (sp_1 (nI n)) = (-1 : Int32) ∧ (sp_96 n g a o).1 = true ∧ (sp_96 n g a o).2 (20, 0, 0) 39 = f (10, a, 2 + o) j) := by
  have p1 := pc_1 hn
  have e := inv_it (N := n) (F := sp_96_7 a o) (s0 := xm_up g (20, 0, 0) 36 (0 : Int32)) (R := fun i (s : FI) => kp [2036, 2137, 2138] g s ∧ BL s i (fun x => ct i (fun j => sp_64 f a (2 + o) j && decide (f (10, a, 2 + o) j = x)))) ⟨kp_up (kp_re _ _) rfl, BL_0 g⟩ ?_
  · have q := w_eq (f := f) (i := a) (k := 2 + o) (v := sp_1 (nI n)) hn p1.1 (by omega) p1.2.1 e.2 (fun x => ct_ext (fun j hj => by
      unfold cq
      rw [bt_and, ← h_64 _ _ _ (by omega), p1.2.2 j hj, Bool.and_true]))
    unfold sp_96
    rw [e.2.1, nI_clamp (by omega)]
    exact q
  · intro i s hi hs
    obtain ⟨hk, hB⟩ := hs
    refine ⟨kp_tr hk rfl (kp_sp_96_7 a o i s), ?_⟩
    unfold sp_96_7
    rw [hB.1, nI_clamp (by omega), hk (21, 11, 0) a rfl, hk (21, 33, 0) _ rfl, hk (21, 34, 0) _ rfl, hk (21, 35, 0) _ rfl]
    rcases Classical.em (i = a) with z | z
    · subst z
      rw [if_pos rfl, ← h.1]
      refine BL_c (BL_84 hB (by omega) _ _) (fun x => ?_)
      rw [ct_s]
      rcases Bool.eq_false_or_eq_true (sp_64 f i (2 + o) i) with y | y
      · rw [y, h.2.1 y]
        rfl
      · rw [y]
        rfl
    · rw [if_neg (nI_ne (by omega) (by omega) z)]
      have r1 := h.2.2 i hi z
      refine BL_c (BL_84 hB (by omega) _ _) (fun x => ?_)
      rw [ct_s, r1.1]
      rcases Bool.eq_false_or_eq_true (sp_64 f a (2 + o) i) with y | y
      · rw [y, r1.2 y]
        rfl
      · rw [y]
        rfl
set_option maxRecDepth 4000 in
theorem w_59 {n a : Nat} {f : FI} : sp_59 n f a = true ↔ ∀ o, o < 4 → ¬ sp_66 n f a (2 + o) (sp_1 (nI n)) = (-1 : Int32) := by
  have key : ∀ m i, i + m = 4 → (sp_59_2 n f a m i = true ↔ ∀ o, i ≤ o → o < 4 → ¬ sp_66 n f a (2 + o) (sp_1 (nI n)) = (-1 : Int32)) := by
    intro m
    induction m with
    | zero => exact fun i hi => ⟨fun _ o h1 h2 => by omega, fun _ => rfl⟩
    | succ m ih =>
      intro i hi
      unfold sp_59_2
      rcases Classical.em (sp_66 n f a (2 + i) (sp_1 (nI n)) = (-1 : Int32)) with z | z
      · rw [if_pos z]
        exact ⟨fun y => (by cases y), fun y => absurd z (y i (Nat.le_refl _) (by omega))⟩
      · rw [if_neg z, ih (i + 1) (by omega)]
        refine ⟨fun y o h1 h2 => ?_, fun y o h1 h2 => y o (by omega) h2⟩
        rcases Classical.em (o = i) with e | e
        · rw [e]
          exact z
        · exact y o (by omega) h2
  rw [show sp_59 n f a = sp_59_2 n f a 4 0 from rfl, key 4 0 (by omega)]
  exact ⟨fun h o ho => h o (by omega) ho, fun h o _ ho => h o ho⟩
set_option maxRecDepth 4000 in
theorem w_95 {n a : Nat} {f g : FI} (hn : n ≤ 6) (ha : a < n) (h : ∀ o, o < 4 → OW n a o f g) : kp [2036, 2039, 2137, 2138] g (lq_it 4 (sp_95_4 n a) (true, g)).2 ∧ ((lq_it 4 (sp_95_4 n a) (true, g)).1 = true ↔ ∀ o, o < 4 → ¬ sp_66 n f a (2 + o) (sp_1 (nI n)) = (-1 : Int32)) := by
  refine inv_it (N := 4) (F := sp_95_4 n a) (s0 := (true, g)) (R := fun i (s : Bool × FI) => kp [2036, 2039, 2137, 2138] g s.2 ∧ (s.1 = true ↔ ∀ o, o < i → ¬ sp_66 n f a (2 + o) (sp_1 (nI n)) = (-1 : Int32))) ⟨kp_re _ _, ⟨fun _ o ho => absurd ho (Nat.not_lt_zero o), fun _ => rfl⟩⟩ ?_
  intro i s hi hs
  obtain ⟨hk, hb⟩ := hs
  refine ⟨kp_tr hk rfl (kp_sp_95_4 n a i s), ?_⟩
  have hw := w_96 hn ha (OW_kp (h i hi) (kp_re [800] f) (kp_sub hk rfl))
  unfold sp_95_4
  show (if bI (sp_96 n s.2 a i).1 = 0 then false else (if bI s.1 = 0 then false else true)) = true ↔ _
  have ext : (∀ o, o < i + 1 → ¬ sp_66 n f a (2 + o) (sp_1 (nI n)) = (-1 : Int32)) ↔ (s.1 = true ∧ ¬ sp_66 n f a (2 + i) (sp_1 (nI n)) = (-1 : Int32)) := by
    rw [hb]
    refine ⟨fun y => ⟨fun o ho => y o (by omega), y i (by omega)⟩, fun y o ho => ?_⟩
    rcases Classical.em (o = i) with e | e
    · rw [e]
      exact y.2
    · exact y.1 o (by omega)
  rw [ext]
  rcases hw with ⟨w1, w2⟩ | ⟨j, hj, w1, w2, w3, w4⟩
  · rw [w2, if_pos (show bI false = 0 from rfl)]
    exact ⟨fun y => (by cases y), fun y => absurd w1 y.2⟩
  · rw [w3, if_neg (show ¬ bI true = 0 by decide)]
    rcases Bool.eq_false_or_eq_true s.1 with y | y
    · rw [y, if_neg (show ¬ bI true = 0 by decide)]
      exact ⟨fun _ => ⟨rfl, w2⟩, fun _ => rfl⟩
    · rw [y, if_pos (show bI false = 0 from rfl)]
      exact ⟨fun z => (by cases z), fun z => (by cases z.1)⟩
set_option maxRecDepth 4000 in
/-- parts taken over where they win -/
theorem t_57 {n a : Nat} {f0 f g t : FI} (hn : n ≤ 6) (ha : a < n) (hY : SY n a f t) (h : ∀ o, o < 4 → OW n a o f g) (kt : kp [2036, 2039, 2112, 2113, 2114, 2115, 2137, 2138] g t) (hg : g (21, 11, 0) a = 0 ∨ (lq_it 4 (sp_95_4 n a) (true, f0)).1 = true) :
    SY n a (sp_57 n f a) (lq_it 4 (sp_95_36 n f0 a) t) := by
  have e := rel_it (N := 4) (F := sp_57_2 n a) (G := sp_95_36 n f0 a) (s0 := f) (t0 := t) (R := fun _ S T => SY n a S T ∧ kp [800] f S ∧ kp [2036, 2039, 2112, 2113, 2114, 2115, 2137, 2138] g T) ⟨hY, kp_re _ _, kt⟩ ?_
  · exact e.1
  · intro o S T ho hR
    obtain ⟨r1, r2, r3⟩ := hR
    refine ⟨?_, kp_tr r2 rfl (kp_sp_57_2 n a o S), kp_tr r3 rfl (kp_sp_95_36 n f0 a o T)⟩
    have hw := w_96 hn ha (OW_kp (h o ho) r2 r3)
    have k96 := kp_sp_96 n T a o
    have syk : SY n a S (sp_96 n T a o).2 := by
      obtain ⟨s0, s1, s2, s3, s4, s5, s6⟩ := r1
      refine ⟨?_, ?_, fun j hj => ?_, s3, fun j b hj hb => ?_, fun j b hj h4 hb => ?_, s6⟩
      · rw [k96 (21, 12, 0) a rfl]
        exact s0
      · rw [k96 (21, 13, 0) a rfl]
        exact s1
      · rw [k96 (21, 14, 0) _ rfl]
        exact s2 j hj
      · rw [k96 (21, 15, 0) _ rfl]
        exact s4 j b hj hb
      · rw [k96 (21, 15, 0) _ rfl]
        exact s5 j b hj h4 hb
    unfold sp_57_2 sp_95_36
    rcases hw with ⟨w1, w2⟩ | ⟨j, hj, w1, w2, w3, w4⟩
    · rw [if_pos w1, w2, if_pos (show bI false = 0 from rfl)]
      exact syk
    · have eG : (if bI (sp_96 n T a o).1 = 0 then (sp_96 n T a o).2 else (if ((sp_96 n T a o).2 (21, 11, 0) a) = 0 then (sp_97 n (sp_96 n T a o).2 a o ((sp_96 n T a o).2 (20, 0, 0) 39)) else (if (bI ((lq_it 4 (sp_95_4 n a) (true, f0)).1)) = 0 then (sp_96 n T a o).2 else (sp_97 n (sp_96 n T a o).2 a o ((sp_96 n T a o).2 (20, 0, 0) 39))))) = sp_97 n (sp_96 n T a o).2 a o ((sp_96 n T a o).2 (20, 0, 0) 39) := by
        rw [w3, if_neg (show ¬ bI true = 0 by decide)]
        rcases hg with hg | hg
        · rw [if_pos ((k96 (21, 11, 0) a rfl).trans ((r3 (21, 11, 0) a rfl).trans hg))]
        · rw [hg, if_neg (show ¬ bI true = 0 by decide), ite_self]
      rw [if_neg w2, eG, w4, w1, nI_clamp (by omega)]
      exact SY_97 hn syk ho _
set_option maxRecDepth 4000 in
theorem kn_55 (n : Nat) (f : FI) (a : Nat) : kn a f (sp_55 n f a) := by
  have h57 : ∀ f, kn a f (sp_57 n f a) := fun f => kn_it (fun i s => kn_if (kn_re a s) (kn_up (kn_re a s)))
  have h56 : kn a f (sp_56 f a) := kn_it (fun i s => kn_63 s a _ _ _)
  exact kn_if (kn_tr h56 (h57 _)) (kn_if (kn_re a f) (kn_up (h57 _)))
set_option maxRecDepth 4000 in
theorem d_56 {n a : Nat} (hn : n ≤ 6) (ha : a < n) (f : FI) : kp [900, 1000] f (sp_56 f a) ∧ (∀ o p, o < 4 → p < 32 → sp_64 (sp_56 f a) a (2 + o) p = if p = a then true else sp_64 f a (2 + o) p) ∧ (∀ o p, o < 4 → (sp_56 f a) (10, a, 2 + o) p = if p = a then f (8, a, 0) o else f (10, a, 2 + o) p) := by
  have e := inv_it (N := 4) (F := sp_56_2 a) (s0 := f) (R := fun i (s : FI) => kp [900, 1000] f s ∧ (∀ o p, o < 4 → p < 32 → sp_64 s a (2 + o) p = if p = a ∧ o < i then true else sp_64 f a (2 + o) p) ∧ (∀ o p, o < 4 → s (10, a, 2 + o) p = if p = a ∧ o < i then f (8, a, 0) o else f (10, a, 2 + o) p)) ⟨kp_re _ _, fun o p _ _ => by rw [if_neg (fun z => by omega)], fun o p _ => by rw [if_neg (fun z => by omega)]⟩ ?_
  · refine ⟨e.1, fun o p ho hp => ?_, fun o p ho => ?_⟩
    · have := e.2.1 o p ho hp
      rw [show (sp_56 f a) = lq_it 4 (sp_56_2 a) f from rfl, this]
      rcases Classical.em (p = a) with z | z
      · rw [if_pos ⟨z, ho⟩, if_pos z]
      · rw [if_neg (fun y => z y.1), if_neg z]
    · have := e.2.2 o p ho
      rw [show (sp_56 f a) = lq_it 4 (sp_56_2 a) f from rfl, this]
      rcases Classical.em (p = a) with z | z
      · rw [if_pos ⟨z, ho⟩, if_pos z]
      · rw [if_neg (fun y => z y.1), if_neg z]
  · intro i s hi hs
    obtain ⟨hk, h1, h2⟩ := hs
    refine ⟨kp_tr hk rfl (kp_sp_56_2 a i s), fun o p ho hp => ?_, fun o p ho => ?_⟩
    · unfold sp_56_2
      rw [h_63 _ _ _ _ _ _ _ (by omega) hp, h1 o p ho hp]
      rcases Classical.em (p = a ∧ o = i) with z | z
      · rw [if_pos ⟨rfl, by omega, z.1⟩, if_pos ⟨z.1, by omega⟩]
      · rw [if_neg (fun y => z ⟨y.2.2, by omega⟩)]
        rcases Classical.em (p = a ∧ o < i) with y | y
        · rw [if_pos y, if_pos ⟨y.1, by omega⟩]
        · rw [if_neg y, if_neg (fun x => by omega)]
    · unfold sp_56_2
      rw [v_63, h2 o p ho, hk (8, a, 0) i rfl]
      rcases Classical.em (p = a ∧ o = i) with z | z
      · rw [if_pos ⟨rfl, by omega, z.1⟩, if_pos ⟨z.1, by omega⟩, z.2]
      · rw [if_neg (fun y => z ⟨y.2.2, by omega⟩)]
        rcases Classical.em (p = a ∧ o < i) with y | y
        · rw [if_pos y, if_pos ⟨y.1, by omega⟩]
        · rw [if_neg y, if_neg (fun x => by omega)]
def AD (n a : Nat) (f g : FI) : Prop := SY n a f g ∧ f (7, a, 0) 3 = g (21, 11, 0) a ∧ (g (21, 11, 0) a = 0 ∨ g (21, 11, 0) a = 1) ∧ (∀ o, o < 4 → f (8, a, 0) o = g (21, 33, 0) (6 * o + a)) ∧ (∀ p o, p < n → o < 4 → ¬ p = a → rl f g 34 (2 + o) a p (36 * o + 6 * a + p)) ∧ (∀ o, o < 4 → sp_64 f a (2 + o) a = false)
set_option maxRecDepth 4000 in
theorem sy_k {n a : Nat} {f g g' : FI} (h : SY n a f g) (k : kp [2036, 2039, 2137, 2138] g g') : SY n a f g' := by
  obtain ⟨s0, s1, s2, s3, s4, s5, s6⟩ := h
  refine ⟨?_, ?_, fun j hj => ?_, s3, fun j b hj hb => ?_, fun j b hj h4 hb => ?_, s6⟩
  · rw [k (21, 12, 0) a rfl]
    exact s0
  · rw [k (21, 13, 0) a rfl]
    exact s1
  · rw [k (21, 14, 0) _ rfl]
    exact s2 j hj
  · rw [k (21, 15, 0) _ rfl]
    exact s4 j b hj hb
  · rw [k (21, 15, 0) _ rfl]
    exact s5 j b hj h4 hb
set_option maxRecDepth 4000 in
theorem sy_11 {n a : Nat} {f g : FI} {v : Int32} {q : Nat} (h : SY n a f g) : SY n a f (xm_up g (21, 11, 0) q v) := by
  obtain ⟨s0, s1, s2, s3, s4, s5, s6⟩ := h
  refine ⟨?_, ?_, fun j hj => ?_, s3, fun j b hj hb => ?_, fun j b hj h4 hb => ?_, s6⟩
  · rw [up_ne _ _ (by simp)]
    exact s0
  · rw [up_ne _ _ (by simp)]
    exact s1
  · rw [up_ne _ _ (by simp)]
    exact s2 j hj
  · rw [up_ne _ _ (by simp)]
    exact s4 j b hj hb
  · rw [up_ne _ _ (by simp)]
    exact s5 j b hj h4 hb
set_option maxRecDepth 4000 in
/-- one node takes over -/
theorem ad_one {n a : Nat} {f g : FI} (hn : n ≤ 6) (ha : a < n) (h : AD n a f g) : SY n a (sp_55 n f a) (sp_95 n g a) ∧ (sp_55 n f a) (7, a, 0) 3 = (sp_95 n g a) (21, 11, 0) a ∧ ((sp_95 n g a) (21, 11, 0) a = 0 ∨ (sp_95 n g a) (21, 11, 0) a = 1) ∧ (¬ (sp_95 n g a) (21, 11, 0) a = 0 → ¬ g (21, 11, 0) a = 0) := by
  obtain ⟨hY, h3, h01, h33, h34, hd⟩ := h
  have hlast : ∀ t : FI, kp [2036, 2039, 2112, 2113, 2114, 2115, 2137, 2138] t (lq_it 4 (sp_95_36 n g a) t) := fun t => kp_it (p := fun (s : FI) => s) (kp_re _ _) (fun i s => kp_sp_95_36 n g a i s)
  rcases Classical.em (g (21, 11, 0) a = 0) with z | z
  · -- not lost
    obtain ⟨k56, b56, v56⟩ := d_56 hn ha f
    have hOW : ∀ o, o < 4 → OW n a o (sp_56 f a) g := by
      intro o ho
      refine ⟨?_, fun _ => ?_, fun p hp hne => ?_⟩
      · rw [b56 o a ho (by omega), if_pos rfl, if_pos z]
      · rw [v56 o a ho, if_pos rfl]
        exact h33 o ho
      · exact rl_mv (h34 p o hp ho hne) (by rw [b56 o p ho (by omega), if_neg hne]) (by rw [v56 o p ho, if_neg hne]) rfl rfl
    have e1 : sp_55 n f a = sp_57 n (sp_56 f a) a := if_pos (h3.trans z)
    have w := w_95 hn ha hOW
    have hY2 : SY n a (sp_56 f a) g := by
      unfold SY
      rw [k56 (8, a, 0) 0 rfl, k56 (8, a, 0) 1 rfl, k56 (8, a, 0) 2 rfl, k56 (8, a, 0) 3 rfl]
      exact hY
    have t := t_57 (f0 := g) hn ha (sy_k hY2 w.1) hOW (kp_sub w.1 rfl) (Or.inl z)
    have k57 := kp_sp_57 n (sp_56 f a) a
    have z2 : (lq_it 4 (sp_95_36 n g a) (lq_it 4 (sp_95_4 n a) (true, g)).2) (21, 11, 0) a = 0 := by
      rw [hlast _ (21, 11, 0) a rfl, w.1 (21, 11, 0) a rfl]
      exact z
    unfold sp_95
    rw [e1, up_eq, if_pos z2, k57 (7, a, 0) 3 rfl, k56 (7, a, 0) 3 rfl]
    exact ⟨sy_11 t, h3.trans z, Or.inl rfl, fun y => absurd (show bI false = 0 from rfl) y⟩
  · have hz1 : g (21, 11, 0) a = 1 := h01.resolve_left z
    have hOW : ∀ o, o < 4 → OW n a o f g := by
      intro o ho
      refine ⟨?_, fun y => ?_, fun p hp hne => h34 p o hp ho hne⟩
      · rw [hd o ho, if_neg z]
      · rw [hd o ho] at y
        cases y
    have w := w_95 hn ha hOW
    have z2 : ¬ (lq_it 4 (sp_95_36 n g a) (lq_it 4 (sp_95_4 n a) (true, g)).2) (21, 11, 0) a = 0 := by
      rw [hlast _ (21, 11, 0) a rfl, w.1 (21, 11, 0) a rfl]
      exact z
    have e0 : sp_55 n f a = if (bI (sp_59 n f a)) = 0 then f else ((xm_up (sp_57 n f a) (7, a, 0) 3 (0 : Int32))) := if_neg (by rw [h3]; exact z)
    have e59 : sp_59 n f a = (lq_it 4 (sp_95_4 n a) (true, g)).1 := by
      have q := (w_59 (n := n) (a := a) (f := f)).trans w.2.symm
      rcases Bool.eq_false_or_eq_true (sp_59 n f a) with y | y
      · rw [y, q.mp y]
      · rcases Bool.eq_false_or_eq_true (lq_it 4 (sp_95_4 n a) (true, g)).1 with x | x
        · rw [q.mpr x] at y
          cases y
        · rw [y, x]
    unfold sp_95
    rw [up_eq, if_neg z2, e0, e59]
    rcases Bool.eq_false_or_eq_true (lq_it 4 (sp_95_4 n a) (true, g)).1 with y | y
    · -- whole
      have t := t_57 (f0 := g) hn ha (sy_k hY w.1) hOW (kp_sub w.1 rfl) (Or.inr y)
      rw [y, if_neg (show ¬ bI true = 0 by decide), if_neg (show ¬ bI true = 0 by decide), up_eq]
      refine ⟨sy_11 ?_, rfl, Or.inl rfl, fun _ => z⟩
      unfold SY
      rw [up_ne _ _ (by simp), up_ne _ _ (by simp), up_ne _ _ (by simp), up_ne _ _ (by simp)]
      exact t
    · rw [y, if_pos (show bI false = 0 from rfl), if_pos (show bI false = 0 from rfl)]
      refine ⟨sy_11 ?_, h3.trans hz1, Or.inr rfl, fun _ => z⟩
      have q := inv_it (N := 4) (F := sp_95_36 n g a) (s0 := (lq_it 4 (sp_95_4 n a) (true, g)).2) (R := fun _ (T : FI) => kp [2036, 2039, 2137, 2138] g T) w.1 (fun o T ho hT => by
        have k96 := kp_sp_96 n T a o
        have hT2 : kp [2036, 2039, 2137, 2138] g (sp_96 n T a o).2 := kp_tr hT rfl k96
        unfold sp_95_36
        rw [y, if_pos (show bI false = 0 from rfl), if_neg (show ¬ (sp_96 n T a o).2 (21, 11, 0) a = 0 by rw [hT2 (21, 11, 0) a rfl]; exact z), ite_self]
        exact hT2)
      exact sy_k hY q
set_option maxRecDepth 4000 in
/-- the cells of another node stay, in the reference -/
theorem ne_95 {n a q : Nat} {g : FI} (hn : n ≤ 6) (hq : ¬ q = a) : (sp_95 n g a) (21, 11, 0) q = g (21, 11, 0) q ∧ (sp_95 n g a) (21, 12, 0) q = g (21, 12, 0) q ∧ (sp_95 n g a) (21, 13, 0) q = g (21, 13, 0) q ∧ ∀ j, j < 6 → (sp_95 n g a) (21, 14, 0) (6 * q + j) = g (21, 14, 0) (6 * q + j) ∧ (sp_95 n g a) (21, 15, 0) (6 * q + j) = g (21, 15, 0) (6 * q + j) := by
  have k4 : kp [2036, 2039, 2137, 2138] g (lq_it 4 (sp_95_4 n a) (true, g)).2 := kp_it (p := fun (s : Bool × FI) => s.2) (kp_re _ _) (fun i s => kp_sp_95_4 n a i s)
  have hlast : ∀ t : FI, kp [2036, 2039, 2112, 2113, 2114, 2115, 2137, 2138] t (lq_it 4 (sp_95_36 n g a) t) := fun t => kp_it (p := fun (s : FI) => s) (kp_re _ _) (fun i s => kp_sp_95_36 n g a i s)
  have e := inv_it (N := 4) (F := sp_95_36 n g a) (s0 := (lq_it 4 (sp_95_4 n a) (true, g)).2) (R := fun _ (T : FI) => T (21, 12, 0) q = g (21, 12, 0) q ∧ T (21, 13, 0) q = g (21, 13, 0) q ∧ ∀ j, j < 6 → T (21, 14, 0) (6 * q + j) = g (21, 14, 0) (6 * q + j) ∧ T (21, 15, 0) (6 * q + j) = g (21, 15, 0) (6 * q + j)) ⟨k4 (21, 12, 0) q rfl, k4 (21, 13, 0) q rfl, fun j _ => ⟨k4 (21, 14, 0) _ rfl, k4 (21, 15, 0) _ rfl⟩⟩ (fun o T ho hT => by
    have k96 := kp_sp_96 n T a o
    have r0 : (sp_96 n T a o).2 (21, 12, 0) q = g (21, 12, 0) q ∧ (sp_96 n T a o).2 (21, 13, 0) q = g (21, 13, 0) q ∧ ∀ j, j < 6 → (sp_96 n T a o).2 (21, 14, 0) (6 * q + j) = g (21, 14, 0) (6 * q + j) ∧ (sp_96 n T a o).2 (21, 15, 0) (6 * q + j) = g (21, 15, 0) (6 * q + j) := ⟨(k96 (21, 12, 0) q rfl).trans hT.1, (k96 (21, 13, 0) q rfl).trans hT.2.1, fun j hj => ⟨(k96 (21, 14, 0) _ rfl).trans (hT.2.2 j hj).1, (k96 (21, 15, 0) _ rfl).trans (hT.2.2 j hj).2⟩⟩
    have r1 : ∀ v, (sp_97 n (sp_96 n T a o).2 a o v) (21, 12, 0) q = g (21, 12, 0) q ∧ (sp_97 n (sp_96 n T a o).2 a o v) (21, 13, 0) q = g (21, 13, 0) q ∧ ∀ j, j < 6 → (sp_97 n (sp_96 n T a o).2 a o v) (21, 14, 0) (6 * q + j) = g (21, 14, 0) (6 * q + j) ∧ (sp_97 n (sp_96 n T a o).2 a o v) (21, 15, 0) (6 * q + j) = g (21, 15, 0) (6 * q + j) := fun v => by
      have d := (d_97 hn a o v (sp_96 n T a o).2).2.2.2 q hq
      exact ⟨d.1.trans r0.1, d.2.1.trans r0.2.1, fun j hj => ⟨(d.2.2 j hj).1.trans (r0.2.2 j hj).1, (d.2.2 j hj).2.trans (r0.2.2 j hj).2⟩⟩
    unfold sp_95_36
    split
    · exact r0
    · split
      · exact r1 _
      · split
        · exact r0
        · exact r1 _)
  unfold sp_95
  refine ⟨?_, ?_, ?_, fun j hj => ⟨?_, ?_⟩⟩
  · rw [up_ne _ _ (fun z => hq z.2), hlast _ (21, 11, 0) q rfl, k4 (21, 11, 0) q rfl]
  · rw [up_ne _ _ (by simp)]
    exact e.1
  · rw [up_ne _ _ (by simp)]
    exact e.2.1
  · rw [up_ne _ _ (by simp)]
    exact (e.2.2 j hj).1
  · rw [up_ne _ _ (by simp)]
    exact (e.2.2 j hj).2
set_option maxRecDepth 4000 in
theorem sy_mv {n a : Nat} {f f' g g' : FI} (h : SY n a f g) (hs : sn a f f') (h12 : g' (21, 12, 0) a = g (21, 12, 0) a) (h13 : g' (21, 13, 0) a = g (21, 13, 0) a) (h14 : ∀ j, j < n → g' (21, 14, 0) (6 * a + j) = g (21, 14, 0) (6 * a + j) ∧ g' (21, 15, 0) (6 * a + j) = g (21, 15, 0) (6 * a + j)) : SY n a f' g' := by
  obtain ⟨s0, s1, s2, s3, s4, s5, s6⟩ := SY_sn hs h
  refine ⟨?_, ?_, fun j hj => ?_, s3, fun j b hj hb => ?_, fun j b hj h4 hb => ?_, s6⟩
  · rw [h12]
    exact s0
  · rw [h13]
    exact s1
  · rw [(h14 j hj).1]
    exact s2 j hj
  · rw [(h14 j hj).2]
    exact s4 j b hj hb
  · rw [(h14 j hj).2]
    exact s5 j b hj h4 hb
set_option maxRecDepth 4000 in
theorem ad_all {n : Nat} {f g : FI} (hn : n ≤ 6) (h : ∀ a, a < n → AD n a f g) : ∀ a, a < n → SY n a (lq_it n (sp_14_68 n) f) (lq_it n (sp_92_114 n) g) ∧ (lq_it n (sp_14_68 n) f) (7, a, 0) 3 = (lq_it n (sp_92_114 n) g) (21, 11, 0) a ∧ ((lq_it n (sp_92_114 n) g) (21, 11, 0) a = 0 ∨ (lq_it n (sp_92_114 n) g) (21, 11, 0) a = 1) ∧ (¬ (lq_it n (sp_92_114 n) g) (21, 11, 0) a = 0 → ¬ g (21, 11, 0) a = 0) := by
  have e := rel_it (N := n) (F := sp_14_68 n) (G := sp_92_114 n) (s0 := f) (t0 := g) (R := fun i F S => kp [2036, 2039, 2111, 2112, 2113, 2114, 2115, 2137, 2138] g S ∧ (∀ q, i ≤ q → sn q f F) ∧ (∀ q, i ≤ q → S (21, 11, 0) q = g (21, 11, 0) q ∧ S (21, 12, 0) q = g (21, 12, 0) q ∧ S (21, 13, 0) q = g (21, 13, 0) q ∧ ∀ j, j < 6 → S (21, 14, 0) (6 * q + j) = g (21, 14, 0) (6 * q + j) ∧ S (21, 15, 0) (6 * q + j) = g (21, 15, 0) (6 * q + j)) ∧ ∀ a, a < i → SY n a F S ∧ F (7, a, 0) 3 = S (21, 11, 0) a ∧ (S (21, 11, 0) a = 0 ∨ S (21, 11, 0) a = 1) ∧ (¬ S (21, 11, 0) a = 0 → ¬ g (21, 11, 0) a = 0)) ⟨kp_re _ _, fun _ _ _ _ _ => rfl, fun _ _ => ⟨rfl, rfl, rfl, fun _ _ => ⟨rfl, rfl⟩⟩, fun a ha => absurd ha (Nat.not_lt_zero a)⟩ ?_
  · exact e.2.2.2
  · intro i F S hi hR
    obtain ⟨hk, hU, hV, hA⟩ := hR
    have kk := kn_55 n F i
    unfold sp_14_68 sp_92_114
    refine ⟨kp_tr hk rfl (kp_sp_95 n S i), fun q hq t c j => ?_, fun q hq => ?_, fun a ha => ?_⟩
    · rw [kk t q c j (by omega)]
      exact hU q (by omega) t c j
    · have d := ne_95 (g := S) hn (show ¬ q = i by omega)
      have v := hV q (by omega)
      exact ⟨d.1.trans v.1, d.2.1.trans v.2.1, d.2.2.1.trans v.2.2.1, fun j hj => ⟨(d.2.2.2 j hj).1.trans (v.2.2.2 j hj).1, (d.2.2.2 j hj).2.trans (v.2.2.2 j hj).2⟩⟩
    · rcases Classical.em (a = i) with z | z
      · subst z
        have fin : AD n a F S := ?_
        · have q := ad_one hn hi fin
          refine ⟨q.1, q.2.1, q.2.2.1, fun y => ?_⟩
          rw [← (hV a (Nat.le_refl _)).1]
          exact q.2.2.2 y
        obtain ⟨x1, x2, x3, x4, x5, x6⟩ := h a hi
        have us := hU a (Nat.le_refl _)
        have v := hV a (Nat.le_refl _)
        refine ⟨sy_mv x1 us v.2.1 v.2.2.1 (fun j hj => v.2.2.2 j (by omega)), ?_, ?_, fun o ho => ?_, fun p o hp ho hne => ?_, fun o ho => ?_⟩
        · rw [us 7 0 3, v.1]
          exact x2
        · rw [v.1]
          exact x3
        · rw [us 8 0 o, hk (21, 33, 0) _ rfl]
          exact x4 o ho
        · exact rl_mv (x5 p o hp ho hne) (sn_64 us _ _) (us 10 _ _) (hk (21, 34, 0) _ rfl) (hk (21, 35, 0) _ rfl)
        · rw [sn_64 us]
          exact x6 o ho
      · have u := hA a (by omega)
        have d := ne_95 (g := S) hn (show ¬ a = i by omega)
        refine ⟨sy_mv u.1 (fun t c j => kk t a c j z) d.2.1 d.2.2.1 (fun j hj => d.2.2.2 j (by omega)), ?_, ?_, ?_⟩
        · rw [kk 7 a 0 3 z, d.1]
          exact u.2.1
        · rw [d.1]
          exact u.2.2.1
        · rw [d.1]
          exact u.2.2.2
