/-! Members and counts, side by side. -/
def SY (n a : Nat) (f g : FI) : Prop := f (8, a, 0) 0 = g (21, 12, 0) a ∧ f (8, a, 0) 1 = g (21, 13, 0) a ∧ (∀ j, j < n → g (21, 14, 0) (6 * a + j) = bI (bt (f (8, a, 0) 2) j)) ∧ (∀ j, n ≤ j → j < 32 → bt (f (8, a, 0) 2) j = false) ∧ (∀ j b, j < n → b < 4 → bt (f (8, a, 0) 3) (4 * j + b) = bt (g (21, 15, 0) (6 * a + j)) b) ∧ (∀ j b, j < n → 4 ≤ b → b < 32 → bt (g (21, 15, 0) (6 * a + j)) b = false) ∧ (∀ j, 4 * n ≤ j → j < 32 → bt (f (8, a, 0) 3) j = false)
set_option maxRecDepth 4000 in
theorem x4 (i : Nat) : (4 : Int32) * nI i = nI (4 * i) := nx_mul (x := (4 : Int32)) (a := 4) rfl rfl
set_option maxRecDepth 4000 in
theorem n_54 {n a i : Nat} {f g : FI} (hn : n ≤ 6) (h : SY n a f g) (hi : i < n) : sp_54 f a i = g (21, 15, 0) (6 * a + i) := by
  apply bt_ext
  intro b hb
  unfold sp_54
  rw [x4, bt_and, bt_shr (4 * i) (by omega) _ hb, bt_15 b hb]
  rcases Nat.lt_or_ge b 4 with h4 | h4
  · rw [decide_eq_true h4, Bool.and_true, if_pos (by omega)]
    exact h.2.2.2.2.1 i b hi h4
  · rw [decide_eq_false (by omega), Bool.and_false]
    exact (h.2.2.2.2.2.1 i b hi h4 hb).symm
set_option maxRecDepth 4000 in
theorem b_53 (f : FI) (a : Nat) {i : Nat} (hi : i < 7) (y : Int32) (hy : ∀ b, 4 ≤ b → b < 32 → bt y b = false) {j : Nat} (hj : j < 32) : bt ((sp_53 f a i y) (8, a, 0) 3) j = if 4 * i ≤ j ∧ j < 4 * i + 4 then bt y (j - 4 * i) else bt (f (8, a, 0) 3) j := by
  unfold sp_53
  rw [up_eq, x4, bt_or, bt_and, bt_xor, bt_shl (4 * i) (by omega) _ hj, bt_shl (4 * i) (by omega) _ hj, bt_m1 j hj]
  rcases Nat.lt_or_ge j (4 * i) with h1 | h1
  · rw [decide_eq_false (show ¬ 4 * i ≤ j by omega), if_neg (fun z => by omega)]
    simp
  · rw [decide_eq_true (show 4 * i ≤ j from h1), bt_15 _ (by omega)]
    rcases Nat.lt_or_ge j (4 * i + 4) with h2 | h2
    · rw [if_pos ⟨h1, h2⟩, decide_eq_true (show j - 4 * i < 4 by omega)]
      simp
    · rw [if_neg (fun z => by omega), decide_eq_false (show ¬ j - 4 * i < 4 by omega), hy _ (by omega) (by omega)]
      simp
set_option maxRecDepth 4000 in
theorem o_53 (f : FI) (a i : Nat) (y : Int32) {b : xm_I} {j : Nat} (h : ¬ (b = (8, a, 0) ∧ j = 3)) : (sp_53 f a i y) b j = f b j := up_ne _ _ h
set_option maxRecDepth 4000 in
theorem nib16 {y : Int32} (h : ∀ b, 4 ≤ b → b < 32 → bt y b = false) : ∃ c, c < 16 ∧ y = nI c := by
  obtain ⟨t, ht, e⟩ := nib_of y
  refine ⟨t, ht, ?_⟩
  rw [← e]
  apply bt_ext
  intro b hb
  rw [bt_and, bt_15 b hb]
  rcases Nat.lt_or_ge b 4 with h4 | h4
  · rw [decide_eq_true h4, Bool.and_true]
  · rw [decide_eq_false (by omega), h b h4 hb]
    rfl
set_option maxRecDepth 4000 in
/-- the count of i set, on both sides -/
theorem SY_cnt {n a i : Nat} {f g : FI} (hn : n ≤ 6) (h : SY n a f g) (hi : i < n) (y : Int32) (hy : ∀ b, 4 ≤ b → b < 32 → bt y b = false) : SY n a (sp_53 f a i y) (xm_up g (21, 15, 0) (6 * a + i) y) := by
  obtain ⟨s0, s1, s2, s3, s4, s5, s6⟩ := h
  have g15 : ∀ j, j < n → xm_up g (21, 15, 0) (6 * a + i) y (21, 15, 0) (6 * a + j) = if j = i then y else g (21, 15, 0) (6 * a + j) := by
    intro j hj
    rcases Classical.em (j = i) with e | e
    · rw [e, up_eq, if_pos rfl]
    · rw [up_ne _ _ (fun z => e (by omega)), if_neg e]
  refine ⟨?_, ?_, fun j hj => ?_, fun j h1 h2 => ?_, fun j b hj hb => ?_, fun j b hj h4 hb => ?_, fun j h1 h2 => ?_⟩
  · rw [o_53 _ _ _ _ (by simp), up_ne _ _ (by simp)]
    exact s0
  · rw [o_53 _ _ _ _ (by simp), up_ne _ _ (by simp)]
    exact s1
  · rw [o_53 _ _ _ _ (by simp), up_ne _ _ (by simp)]
    exact s2 j hj
  · rw [o_53 _ _ _ _ (by simp)]
    exact s3 j h1 h2
  · rw [b_53 f a (by omega) y hy (by omega), g15 j hj]
    rcases Classical.em (j = i) with e | e
    · rw [if_pos (by omega), if_pos e, show 4 * j + b - 4 * i = b by omega]
    · rw [if_neg (by omega), if_neg e]
      exact s4 j b hj hb
  · rw [g15 j hj]
    rcases Classical.em (j = i) with e | e
    · rw [if_pos e]
      exact hy b h4 hb
    · rw [if_neg e]
      exact s5 j b hj h4 hb
  · rw [b_53 f a (by omega) y hy h2, if_neg (by omega)]
    exact s6 j h1 h2
set_option maxRecDepth 4000 in
theorem SY_flip {n a i : Nat} {f g : FI} (hn : n ≤ 6) (h : SY n a f g) (hi : i < n) : SY n a (xm_up f (8, a, 0) 2 ((f (8, a, 0) 2) ^^^ ((1 : Int32) <<< ((nI i) &&& 31)))) (xm_up g (21, 14, 0) (6 * a + i) (bI (if (g (21, 14, 0) (6 * a + i)) = 0 then true else false))) := by
  obtain ⟨s0, s1, s2, s3, s4, s5, s6⟩ := h
  refine ⟨?_, ?_, fun j hj => ?_, fun j h1 h2 => ?_, fun j b hj hb => ?_, fun j b hj h4 hb => ?_, fun j h1 h2 => ?_⟩
  · rw [up_ne _ _ (by simp), up_ne _ _ (by simp)]
    exact s0
  · rw [up_ne _ _ (by simp), up_ne _ _ (by simp)]
    exact s1
  · rw [up_eq, bt_xor, bt_one i (by omega) (by omega)]
    rcases Classical.em (j = i) with e | e
    · rw [e, up_eq, s2 i hi, decide_eq_true rfl]
      cases bt (f (8, a, 0) 2) i <;> rfl
    · rw [up_ne _ _ (fun z => e (by omega)), s2 j hj, decide_eq_false e, Bool.xor_false]
  · rw [up_eq, bt_xor, bt_one i (by omega) h2, s3 j h1 h2, decide_eq_false (by omega)]
    rfl
  · rw [up_ne _ _ (by simp), up_ne _ _ (by simp)]
    exact s4 j b hj hb
  · rw [up_ne _ _ (by simp)]
    exact s5 j b hj h4 hb
  · rw [up_ne _ _ (by simp)]
    exact s6 j h1 h2
set_option maxRecDepth 4000 in
theorem small0 : ∀ b, 4 ≤ b → b < 32 → bt (0 : Int32) b = false := fun b _ hb => (by decide +kernel : ∀ b, b < 32 → bt (0 : Int32) b = false) b hb
set_option maxRecDepth 4000 in
theorem lim_lt : ∀ c, c < 17 → ∀ m, m < 17 → (nI c < nI m ↔ c < m) := fun c hc m hm => nI_ltI (by omega) (by omega)
set_option maxRecDepth 4000 in
theorem mem_in {n a i K : Nat} {f g : FI} (hn : n ≤ 6) (ha : a < n) (hi : i < n) (h : SY n a f g) (hA : ∀ o, o < n → g (21, 16, 0) (6 * a + o) = bI (sp_64 f a 1 o)) (hK1 : f (1, 0, 0) 0 = nI K) (hK2 : g (20, 0, 0) 2 = nI K) (hK : 0 < K) (hK8 : K < 16) :
    SY n a (sp_46_28 a i f) (sp_90_2 a i g) := by
  have e54 := n_54 hn h hi
  have em := h.2.2.1 i hi
  have ea := hA i hi
  obtain ⟨c, hc, ec⟩ := nib16 (fun b h4 hb => h.2.2.2.2.2.1 i b hi h4 hb)
  unfold sp_46_28 sp_52 sp_90_2
  rw [i_50 _ _ (by omega), hK1, hK2, e54, em, ea]
  have up2 : ∀ (u v : Int32), xm_up (xm_up g (21, 15, 0) (6 * a + i) u) (21, 15, 0) (6 * a + i) v = xm_up g (21, 15, 0) (6 * a + i) v := by
    intro u v
    funext b j
    rcases Classical.em (b = (21, 15, 0) ∧ j = 6 * a + i) with z | z
    · rw [z.1, z.2, up_eq, up_eq]
    · rw [up_ne _ _ z, up_ne _ _ z, up_ne _ _ z]
  rcases Classical.em (bI (bt (f (8, a, 0) 2) i) = bI (sp_64 f a 1 i)) with e | e
  · rw [if_pos e, if_pos e, if_pos (show bI false = 0 from rfl), if_pos ?_]
    · exact SY_cnt hn h hi 0 small0
    · split
      · decide
      · exact nI_lt (a := 0) hK (by omega)
  · rw [if_neg e, if_neg e, if_neg (show ¬ bI true = 0 by decide), ec]
    have hl : ∃ m, m < 17 ∧ (if bI (bt (f (8, a, 0) 2) i) = 0 then (2 : Int32) else nI K) = nI m ∧ m < 16 := by
      split
      · exact ⟨2, by omega, rfl, by omega⟩
      · exact ⟨K, by omega, rfl, by omega⟩
    obtain ⟨m, hm, e2, hm6⟩ := hl
    rw [e2, nI_1]
    rcases Nat.lt_or_ge (c + 1) m with h1 | h1
    · rw [if_pos ((lim_lt _ (by omega) _ hm).mpr h1), if_pos ((lim_lt _ (by omega) _ hm).mpr h1)]
      exact SY_cnt hn h hi _ (fun b h4 hb => bt_nI_16 (c + 1) (by omega) b hb h4)
    · rw [if_neg (fun z => by have := (lim_lt _ (by omega) _ hm).mp z; omega), if_neg (fun z => by have := (lim_lt _ (by omega) _ hm).mp z; omega)]
      have q := SY_cnt hn (SY_flip hn h hi) hi 0 small0
      rw [em] at q
      have comm : xm_up (xm_up (xm_up g (21, 15, 0) (6 * a + i) (nI (c + 1))) (21, 14, 0) (6 * a + i) (bI (if bI (bt (f (8, a, 0) 2) i) = 0 then true else false))) (21, 15, 0) (6 * a + i) 0 = xm_up (xm_up g (21, 14, 0) (6 * a + i) (bI (if bI (bt (f (8, a, 0) 2) i) = 0 then true else false))) (21, 15, 0) (6 * a + i) 0 := by
        funext b j
        rcases Classical.em (b = (21, 15, 0) ∧ j = 6 * a + i) with z | z
        · rw [z.1, z.2, up_eq, up_eq]
        · rw [up_ne _ _ z, up_ne _ _ z]
          rcases Classical.em (b = (21, 14, 0) ∧ j = 6 * a + i) with z2 | z2
          · rw [z2.1, z2.2, up_eq, up_eq]
          · rw [up_ne _ _ z2, up_ne _ _ z2, up_ne _ _ z]
      rw [comm]
      exact q
set_option maxRecDepth 4000 in
theorem mb_all {n a K : Nat} {f g : FI} (hn : n ≤ 6) (ha : a < n) (h : SY n a f g) (hA : ∀ o, o < n → g (21, 16, 0) (6 * a + o) = bI (sp_64 f a 1 o)) (hK1 : f (1, 0, 0) 0 = nI K) (hK2 : g (20, 0, 0) 2 = nI K) (hK : 0 < K) (hK8 : K < 16) :
    SY n a (lq_it n (sp_46_28 a) f) (sp_90 n g a) := by
  have e := rel_it (N := n) (F := sp_46_28 a) (G := sp_90_2 a) (s0 := f) (t0 := g) (R := fun i F S => SY n a F S ∧ (∀ o, o < n → S (21, 16, 0) (6 * a + o) = bI (sp_64 F a 1 o)) ∧ F (1, 0, 0) 0 = nI K ∧ S (20, 0, 0) 2 = nI K) ⟨h, hA, hK1, hK2⟩ (fun i F S hi hR => by
    have k1 := kp_sp_46_28 a i F
    have k2 := kp_sp_90_2 a i S
    refine ⟨mem_in hn ha hi hR.1 hR.2.1 hR.2.2.1 hR.2.2.2 hK hK8, fun o ho => ?_, ?_, ?_⟩
    · rw [k2 (21, 16, 0) _ rfl, h_kp k1 rfl]
      exact hR.2.1 o ho
    · exact (k1 (1, 0, 0) 0 rfl).trans hR.2.2.1
    · exact (k2 (20, 0, 0) 2 rfl).trans hR.2.2.2)
  exact e.1
set_option maxRecDepth 4000 in
theorem if_at {P : Prop} [Decidable P] {A B : FI} {b : xm_I} {j : Nat} {v : Int32} (h1 : A b j = v) (h2 : B b j = v) : (if P then A else B) b j = v := by
  split
  · exact h1
  · exact h2
set_option maxRecDepth 4000 in
/-- the cells of another node stay -/
theorem mem_ne {n a q : Nat} {g : FI} (ha : a < 6) (hq : ¬ q = a) (hn : n ≤ 6) {j : Nat} (hj : j < 6) (F : Nat) : (sp_90 n g a) (21, F, 0) (6 * q + j) = g (21, F, 0) (6 * q + j) := by
  refine inv_it (N := n) (F := sp_90_2 a) (s0 := g) (R := fun i (s : FI) => s (21, F, 0) (6 * q + j) = g (21, F, 0) (6 * q + j)) rfl (fun i s hi hs => ?_)
  rw [← hs]
  unfold sp_90_2
  refine if_at ?_ ?_
  · rw [up_ne _ _ (fun z => by omega)]
  · rw [up_ne _ _ (fun z => by omega), up_ne _ _ (fun z => by omega), up_ne _ _ (fun z => by omega)]
set_option maxRecDepth 4000 in
/-- a part of a node's state, as the reference writes it -/
theorem p_93 {n a p : Nat} {f g : FI} (hn : n ≤ 6) (h : SY n a f g) (hp : p < 4) : sp_93 n g a p = f (8, a, 0) p := by
  obtain ⟨s0, s1, s2, s3, s4, s5, s6⟩ := h
  unfold sp_93
  have idle : ¬ p = 2 → ¬ p = 3 → ∀ x, lq_it n (sp_93_32 g a p) x = x := by
    intro h2 h3 x
    refine inv_it (N := n) (F := sp_93_32 g a p) (s0 := x) (R := fun _ (s : Int32) => s = x) rfl (fun i s hi hs => ?_)
    unfold sp_93_32
    rw [if_neg (show ¬ nI p = (2 : Int32) from nI_ne (b := 2) (by omega) (by omega) h2), if_neg (show ¬ nI p = (3 : Int32) from nI_ne (b := 3) (by omega) (by omega) h3)]
    exact hs
  rcases Classical.em (p = 0) with e | e
  · rw [idle (by omega) (by omega), e, if_pos (show nI 0 = (0 : Int32) from rfl), s0]
  rcases Classical.em (p = 1) with e1 | e1
  · rw [idle (by omega) (by omega), e1, if_neg (show ¬ nI 1 = (0 : Int32) by decide), if_pos (show nI 1 = (1 : Int32) from rfl), s1]
  rw [if_neg (show ¬ nI p = (0 : Int32) from nI_ne (b := 0) (by omega) (by omega) e), if_neg (show ¬ nI p = (1 : Int32) from nI_ne (b := 1) (by omega) (by omega) e1)]
  rcases Classical.em (p = 2) with e2 | e2
  · subst e2
    apply bt_ext
    intro j hj
    have q := inv_it (N := n) (F := sp_93_32 g a 2) (s0 := (0 : Int32)) (R := fun i (s : Int32) => ∀ j, j < 32 → bt s j = (decide (j < i) && bt (f (8, a, 0) 2) j)) (fun j hj => by rw [decide_eq_false (Nat.not_lt_zero j)]; exact (by decide +kernel : ∀ b, b < 32 → bt (0 : Int32) b = false) j hj) ?_
    · rw [q j hj]
      rcases Nat.lt_or_ge j n with h1 | h1
      · rw [decide_eq_true h1, Bool.true_and]
      · rw [decide_eq_false (by omega), s3 j h1 hj]
        rfl
    · intro i s hi hs j hj
      unfold sp_93_32
      rw [if_pos (show nI 2 = (2 : Int32) from rfl), if_neg (show ¬ nI 2 = (3 : Int32) by decide), s2 i hi]
      rcases Bool.eq_false_or_eq_true (bt (f (8, a, 0) 2) i) with hb | hb
      · rw [hb, if_neg (show ¬ bI true = 0 by decide), bt_or, bt_one i (by omega) hj, hs j hj]
        rcases Classical.em (j = i) with e | e
        · rw [e, hb, decide_eq_true rfl, decide_eq_true (show i < i + 1 by omega)]
          simp
        · rw [decide_eq_false e, Bool.or_false, decide_eq_decide.mpr (show j < i ↔ j < i + 1 by omega)]
      · rw [hb, if_pos (show bI false = 0 from rfl), hs j hj]
        rcases Classical.em (j = i) with e | e
        · rw [e, hb, Bool.and_false, Bool.and_false]
        · rw [decide_eq_decide.mpr (show j < i ↔ j < i + 1 by omega)]
  · have e3 : p = 3 := by omega
    subst e3
    apply bt_ext
    intro j hj
    have q := inv_it (N := n) (F := sp_93_32 g a 3) (s0 := (0 : Int32)) (R := fun i (s : Int32) => ∀ j, j < 32 → bt s j = (decide (j < 4 * i) && bt (f (8, a, 0) 3) j)) (fun j hj => by rw [decide_eq_false (by omega)]; exact (by decide +kernel : ∀ b, b < 32 → bt (0 : Int32) b = false) j hj) ?_
    · rw [q j hj]
      rcases Nat.lt_or_ge j (4 * n) with h1 | h1
      · rw [decide_eq_true h1, Bool.true_and]
      · rw [decide_eq_false (by omega), s6 j h1 hj]
        rfl
    · intro i s hi hs j hj
      unfold sp_93_32
      rw [if_neg (show ¬ nI 3 = (2 : Int32) by decide), if_pos (show nI 3 = (3 : Int32) from rfl), bt_or, bt_shl (4 * i) (by omega) _ hj, hs j hj]
      rcases Nat.lt_or_ge j (4 * i) with h1 | h1
      · rw [decide_eq_true h1, decide_eq_false (show ¬ 4 * i ≤ j by omega), decide_eq_true (show j < 4 * (i + 1) by omega)]
        simp
      · rw [decide_eq_false (show ¬ j < 4 * i by omega), decide_eq_true (show 4 * i ≤ j from h1)]
        rcases Nat.lt_or_ge j (4 * (i + 1)) with h2 | h2
        · have := s4 i (j - 4 * i) hi (by omega)
          rw [show 4 * i + (j - 4 * i) = j by omega] at this
          rw [decide_eq_true h2, this]
          simp
        · rw [decide_eq_false (show ¬ j < 4 * (i + 1) by omega), s5 i (j - 4 * i) hi (by omega) (by omega)]
          rfl
