/-! What a node agrees on, side by side. -/
set_option maxRecDepth 4000 in
theorem bt_m1 : ∀ j, j < 32 → bt (-1 : Int32) j = true := by decide +kernel
set_option maxRecDepth 4000 in
theorem bt_v (A : Int32) {a i j : Nat} (ha : a < 32) (hi : i < 32) (hj : j < 32) : bt ((A ||| ((1 : Int32) <<< ((nI a) &&& 31))) &&& (((1 : Int32) <<< ((nI i) &&& 31)) ^^^ (-1 : Int32))) j = ((bt A j || decide (j = a)) && !decide (j = i)) := by
  rw [bt_and, bt_or, bt_xor, bt_one a ha hj, bt_one i hi hj, bt_m1 j hj, Bool.xor_true]
def AR (n a i : Nat) (f g : FI) : Prop := (∀ o, o < n → ¬ o = a → rl f g 27 0 a o (6 * a + o)) ∧ (∀ p o, p < n → o < n → i ≤ o → ¬ p = a → rl f g 29 (6 + o) a p (36 * a + 6 * p + o)) ∧ (∀ o, o < n → i ≤ o → sp_64 f a (6 + o) a = false) ∧ (∀ j, j < n → g (21, 14, 0) (6 * a + j) = bI (bt (f (8, a, 0) 2) j)) ∧ (∀ j, n ≤ j → j < 32 → bt (f (8, a, 0) 2) j = false) ∧ f (7, a, 0) 2 = g (21, 8, 0) a ∧ (∀ o, o < n → o < i → rl f g 16 1 a o (6 * a + o))
set_option maxRecDepth 4000 in
/-- the ballots about o, at a node a -/
theorem bal_83 {n a i : Nat} {g : FI} (hn : n ≤ 6) (ha : a < n) (hi : i < n) :
    kp [2036, 2137, 2138] g (lq_it n (sp_83_33 a i) (sp_84 (xm_up g (20, 0, 0) 36 (0 : Int32)) (g (21, 27, 0) ((6 * a) + i)) (g (21, 28, 0) ((6 * a) + i)) 0)) ∧
    BL (lq_it n (sp_83_33 a i) (sp_84 (xm_up g (20, 0, 0) 36 (0 : Int32)) (g (21, 27, 0) ((6 * a) + i)) (g (21, 28, 0) ((6 * a) + i)) 0)) (1 + ct n (fun j => !decide (j = a) && (!decide (j = i) && !decide (g (21, 14, 0) (6 * a + j) = 0)))) (fun x => (if (!decide (g (21, 27, 0) (6 * a + i) = 0) && decide (g (21, 28, 0) (6 * a + i) = x)) = true then 1 else 0) + ct n (fun j => !decide (j = a) && ((!decide (j = i) && !decide (g (21, 14, 0) (6 * a + j) = 0)) && (!decide (g (21, 29, 0) (36 * a + 6 * j + i) = 0) && decide (g (21, 30, 0) (36 * a + 6 * j + i) = x))))) := by
  refine inv_it (N := n) (F := sp_83_33 a i) (R := fun m (s : FI) => kp [2036, 2137, 2138] g s ∧ BL s (1 + ct m (fun j => !decide (j = a) && (!decide (j = i) && !decide (g (21, 14, 0) (6 * a + j) = 0)))) (fun x => (if (!decide (g (21, 27, 0) (6 * a + i) = 0) && decide (g (21, 28, 0) (6 * a + i) = x)) = true then 1 else 0) + ct m (fun j => !decide (j = a) && ((!decide (j = i) && !decide (g (21, 14, 0) (6 * a + j) = 0)) && (!decide (g (21, 29, 0) (36 * a + 6 * j + i) = 0) && decide (g (21, 30, 0) (36 * a + 6 * j + i) = x)))))) ⟨?_, ?_⟩ ?_
  · exact kp_tr (kp_up (kp_re _ _) rfl) rfl (kp_sp_84 _ _ _ _)
  · exact BL_c (BL_84 (BL_0 g) (by omega) _ _) (fun x => by rw [ct_0]; omega)
  · intro m s hm hs
    obtain ⟨hk, hB⟩ := hs
    refine ⟨kp_tr hk rfl (kp_sp_83_33 a i m s), ?_⟩
    have hc := ct_max m (fun j => !decide (j = a) && (!decide (j = i) && !decide (g (21, 14, 0) (6 * a + j) = 0)))
    unfold sp_83_33
    rw [hk (21, 14, 0) _ rfl, hk (21, 29, 0) _ rfl, hk (21, 30, 0) _ rfl, hB.1, nI_clamp (by omega)]
    rw [ct_s]
    rcases Classical.em (m = i) with h1 | h1
    · rw [if_pos (by rw [h1]), decide_eq_true h1]
      simp only [Bool.not_true, Bool.false_and, Bool.and_false, Bool.false_eq_true, if_false, Nat.add_zero]
      refine BL_c hB (fun x => ?_)
      rw [ct_s, decide_eq_true h1]
      simp only [Bool.not_true, Bool.false_and, Bool.and_false, Bool.false_eq_true, if_false, Nat.add_zero]
    rw [if_neg (nI_ne (by omega) (by omega) h1)]
    rcases Classical.em (m = a) with h2 | h2
    · rw [if_pos (by rw [h2]), decide_eq_true h2]
      simp only [Bool.not_true, Bool.false_and, Bool.false_eq_true, if_false, Nat.add_zero]
      refine BL_c hB (fun x => ?_)
      rw [ct_s, decide_eq_true h2]
      simp only [Bool.not_true, Bool.false_and, Bool.false_eq_true, if_false, Nat.add_zero]
    rw [if_neg (nI_ne (by omega) (by omega) h2)]
    rcases Classical.em (g (21, 14, 0) (6 * a + m) = 0) with h3 | h3
    · rw [if_pos h3, decide_eq_true h3]
      simp only [Bool.not_true, Bool.and_false, Bool.false_eq_true, if_false, Nat.add_zero]
      refine BL_c hB (fun x => ?_)
      rw [ct_s, decide_eq_true h3]
      simp only [Bool.not_true, Bool.false_and, Bool.and_false, Bool.false_eq_true, if_false, Nat.add_zero]
    rw [if_neg h3, decide_eq_false h1, decide_eq_false h2, decide_eq_false h3]
    refine BL_c (BL_84 hB (by omega) _ _) (fun x => ?_)
    rw [ct_s, decide_eq_false h1, decide_eq_false h2, decide_eq_false h3]
    simp only [Bool.not_false, Bool.true_and]
    omega
set_option maxRecDepth 4000 in
theorem ag_in {n a i : Nat} {f g : FI} (hn : n ≤ 6) (ha : a < n) (hi : i < n) (h : AR n a i f g) (h1 : sp_64 f a 1 i = false) : AR n a (i + 1) (sp_46_2 n a i f) (sp_82_32 n a i g) ∧ (∀ o, o < 32 → ¬ o = i → sp_64 (sp_46_2 n a i f) a 1 o = sp_64 f a 1 o) := by
  obtain ⟨p1, p2, p3, p4, p5, p6, p7⟩ := h
  have k1 := kp_sp_46_2 n a i f
  have k2 := kp_sp_82_32 n a i g
  have key : rl (sp_46_2 n a i f) (sp_82_32 n a i g) 16 1 a i (6 * a + i) ∧ (∀ c p, p < 32 → ¬ (c = 1 ∧ p = i) → ¬ c = 6 + i → sp_64 (sp_46_2 n a i f) a c p = sp_64 f a c p ∧ (sp_46_2 n a i f) (10, a, c) p = f (10, a, c) p) ∧ (∀ J, ¬ J = 6 * a + i → (sp_82_32 n a i g) (21, 16, 0) J = g (21, 16, 0) J ∧ (sp_82_32 n a i g) (21, 17, 0) J = g (21, 17, 0) J) := by
    unfold sp_46_2 sp_47 sp_82_32
    rcases Classical.em (i = a) with e | e
    · subst e
      rw [if_pos rfl, if_pos rfl]
      refine ⟨⟨?_, fun _ => ?_⟩, fun c p hp hne _ => ?_, fun J hJ => ⟨?_, ?_⟩⟩
      · rw [up_ne _ _ (by simp), show 6 * i + i = 7 * i by omega, up_eq, h_63 _ _ _ _ _ _ _ (by omega) (by omega), if_pos ⟨rfl, rfl, rfl⟩]
        rfl
      · rw [show 6 * i + i = 7 * i by omega, up_eq, v_63, if_pos ⟨rfl, rfl, rfl⟩]
        exact p6
      · rw [h_63 _ _ _ _ _ _ _ (by omega) hp, v_63, if_neg (fun z => hne z.2), if_neg (fun z => hne z.2)]
        exact ⟨rfl, rfl⟩
      · rw [up_ne _ _ (by simp), up_ne _ _ (by simp; omega)]
      · rw [up_ne _ _ (by simp; omega), up_ne _ _ (by simp)]
    · rw [if_neg (nI_ne (by omega) (by omega) e), if_neg (nI_ne (by omega) (by omega) e)]
      have q1 := p1 i hi e
      -- the class with its own vote
      generalize hf1 : (if (bI (sp_64 f a 0 i)) = 0 then f else (sp_63 f a (6 + i) a (sp_65 f a 0 i))) = f1
      have f1h : ∀ c p, p < 32 → sp_64 f1 a c p = if (c = 6 + i ∧ p = a) ∧ sp_64 f a 0 i = true then true else sp_64 f a c p := by
        intro c p hp
        rw [← hf1]
        rcases Bool.eq_false_or_eq_true (sp_64 f a 0 i) with hb | hb
        · rw [hb, if_neg (by decide), h_63 _ _ _ _ _ _ _ (by omega) hp]
          rcases Classical.em (c = 6 + i ∧ p = a) with h2 | h2
          · rw [if_pos ⟨rfl, h2⟩, if_pos ⟨h2, rfl⟩]
          · rw [if_neg (fun z => h2 z.2), if_neg (fun z => h2 z.1)]
        · rw [hb, if_pos (by decide), if_neg (fun z => by cases z.2)]
      have f1v : ∀ c p, f1 (10, a, c) p = if (c = 6 + i ∧ p = a) ∧ sp_64 f a 0 i = true then f (10, a, 0) i else f (10, a, c) p := by
        intro c p
        rw [← hf1]
        rcases Bool.eq_false_or_eq_true (sp_64 f a 0 i) with hb | hb
        · rw [hb, if_neg (by decide), v_63]
          rcases Classical.em (c = 6 + i ∧ p = a) with h2 | h2
          · rw [if_pos ⟨rfl, h2⟩, if_pos ⟨h2, rfl⟩]
            rfl
          · rw [if_neg (fun z => h2 z.2), if_neg (fun z => h2 z.1)]
        · rw [hb, if_pos (by decide), if_neg (fun z => by cases z.2)]
      have f18 : f1 (8, a, 0) 2 = f (8, a, 0) 2 := by
        rw [← hf1]
        split
        · rfl
        · exact kp_sp_63 f a (6 + i) a _ (8, a, 0) 2 rfl
      rw [f18]
      generalize hv : ((f (8, a, 0) 2 ||| ((1 : Int32) <<< ((nI a) &&& 31))) &&& (((1 : Int32) <<< ((nI i) &&& 31)) ^^^ (-1 : Int32))) = v
      have hvb : ∀ j, j < 32 → bt v j = ((bt (f (8, a, 0) 2) j || decide (j = a)) && !decide (j = i)) := fun j hj => by
        rw [← hv]
        exact bt_v _ (by omega) (by omega) hj
      have hX := pc_of (n := n) (x := v) hn (fun j h1 h2 => by rw [hvb j h2, p5 j h1 h2, decide_eq_false (show ¬ j = a by omega)]; rfl)
      have hXe : ct n (fun j => bt v j) = 1 + ct n (fun j => !decide (j = a) && (!decide (j = i) && !decide (g (21, 14, 0) (6 * a + j) = 0))) := by
        rw [ct_out ha, hvb a (by omega), decide_eq_true (show a = a from rfl), decide_eq_false (show ¬ a = i from fun z => e z.symm)]
        simp only [Bool.or_true, Bool.not_false, Bool.and_self, if_true]
        refine congrArg (fun z => 1 + z) (ct_ext (fun j hj => ?_))
        rw [hvb j (by omega), p4 j hj]
        rcases Classical.em (j = a) with h2 | h2
        · rw [decide_eq_true h2]
          rfl
        · rw [decide_eq_false h2]
          rcases Bool.eq_false_or_eq_true (bt (f (8, a, 0) 2) j) with h3 | h3 <;> rw [h3] <;> cases decide (j = i) <;> rfl
      have hXm := ct_max n (fun j => bt v j)
      obtain ⟨kB, hB⟩ := bal_83 (g := g) hn ha hi
      rw [← hXe] at hB
      have hcnt : ∀ x, (if (!decide (g (21, 27, 0) (6 * a + i) = 0) && decide (g (21, 28, 0) (6 * a + i) = x)) = true then 1 else 0) + ct n (fun j => !decide (j = a) && ((!decide (j = i) && !decide (g (21, 14, 0) (6 * a + j) = 0)) && (!decide (g (21, 29, 0) (36 * a + 6 * j + i) = 0) && decide (g (21, 30, 0) (36 * a + 6 * j + i) = x)))) = ct n (cq f1 a (6 + i) v x) := by
        intro x
        rw [ct_out (P := cq f1 a (6 + i) v x) ha]
        have c1 : cq f1 a (6 + i) v x a = (!decide (g (21, 27, 0) (6 * a + i) = 0) && decide (g (21, 28, 0) (6 * a + i) = x)) := by
          unfold cq
          rw [bt_and, ← h_64 _ _ _ (by omega), f1h _ _ (by omega), f1v, hvb a (by omega), decide_eq_true (show a = a from rfl), decide_eq_false (show ¬ a = i from fun z => e z.symm), p3 i hi (Nat.le_refl _), q1.1]
          rcases Bool.eq_false_or_eq_true (sp_64 f a 0 i) with hb | hb
          · rw [if_pos ⟨⟨rfl, rfl⟩, hb⟩, if_pos ⟨⟨rfl, rfl⟩, hb⟩, q1.2 hb, hb]
            simp [bI]
          · rw [if_neg (fun z => by rw [hb] at z; cases z.2), hb]
            simp [bI]
        rw [c1]
        refine congrArg (fun z => _ + z) (ct_ext (fun j hj => ?_))
        rcases Classical.em (j = a) with h2 | h2
        · rw [decide_eq_true h2]
          rfl
        · have q2 := p2 j i hj hi (Nat.le_refl _) h2
          unfold cq
          rw [bt_and, ← h_64 _ _ _ (by omega), f1h _ _ (by omega), f1v, hvb j (by omega), if_neg (fun z => h2 z.1.2), if_neg (fun z => h2 z.1.2), decide_eq_false h2, q2.1, p4 j hj]
          rcases Bool.eq_false_or_eq_true (sp_64 f a (6 + i) j) with hb | hb
          · rw [hb, q2.2 hb]
            rcases Bool.eq_false_or_eq_true (bt (f (8, a, 0) 2) j) with h3 | h3 <;> rw [h3] <;> cases decide (j = i) <;> simp [bI]
          · rw [hb]
            simp [bI]
      have hw := w_eq (f := f1) (i := a) (k := 6 + i) (v := v) hn hX (by omega) (Nat.le_refl _) hB hcnt
      unfold sp_83
      generalize lq_it n (sp_83_33 a i) (sp_84 (xm_up g (20, 0, 0) 36 (0 : Int32)) (g (21, 27, 0) ((6 * a) + i)) (g (21, 28, 0) ((6 * a) + i)) 0) = g3 at *
      rw [hB.1, nI_clamp (by omega)]
      have k85 := kp_sp_85 g3 (nI (ct n (fun j => bt v j))) (ct n (fun j => bt v j))
      have hJ : ∀ b w J, ¬ J = 6 * a + i → (xm_up (xm_up (sp_85 g3 (nI (ct n (fun j => bt v j))) (ct n (fun j => bt v j))).2 (21, 16, 0) ((6 * a) + i) b) (21, 17, 0) ((6 * a) + i) w) (21, 16, 0) J = g (21, 16, 0) J ∧ (xm_up (xm_up (sp_85 g3 (nI (ct n (fun j => bt v j))) (ct n (fun j => bt v j))).2 (21, 16, 0) ((6 * a) + i) b) (21, 17, 0) ((6 * a) + i) w) (21, 17, 0) J = g (21, 17, 0) J := by
        intro b w J hJ
        constructor
        · rw [up_ne _ _ (by simp), up_ne _ _ (fun z => hJ z.2), k85 (21, 16, 0) J rfl, kB (21, 16, 0) J rfl]
        · rw [up_ne _ _ (fun z => hJ z.2), up_ne _ _ (by simp), k85 (21, 17, 0) J rfl, kB (21, 17, 0) J rfl]
      rcases hw with ⟨w1, w2⟩ | ⟨j, hj, w1, w2, w3, w4⟩
      · rw [if_pos w1, w2]
        refine ⟨⟨?_, fun z => ?_⟩, fun c p hp hne h6 => ?_, fun J h => hJ _ _ J h⟩
        · rw [up_ne _ _ (by simp), up_eq, f1h _ _ (by omega), if_neg (fun z => by omega), h1]
        · rw [f1h _ _ (by omega), if_neg (fun z => by omega), h1] at z
          cases z
        · rw [f1h _ _ hp, f1v, if_neg (fun z => h6 z.1.1), if_neg (fun z => h6 z.1.1)]
          exact ⟨rfl, rfl⟩
      · rw [if_neg w2, w3, w4, w1, nI_clamp (by omega)]
        refine ⟨⟨?_, fun z => ?_⟩, fun c p hp hne h6 => ?_, fun J h => hJ _ _ J h⟩
        · rw [up_ne _ _ (by simp), up_eq, h_63 _ _ _ _ _ _ _ (by omega) (by omega), if_pos ⟨rfl, rfl, rfl⟩]
        · rw [up_eq, v_63, if_pos ⟨rfl, rfl, rfl⟩]
          rfl
        · rw [h_63 _ _ _ _ _ _ _ (by omega) hp, v_63, if_neg (fun z => hne z.2), if_neg (fun z => hne z.2), f1h _ _ hp, f1v, if_neg (fun z => h6 z.1.1), if_neg (fun z => h6 z.1.1)]
          exact ⟨rfl, rfl⟩
  obtain ⟨a1, a2, a3⟩ := key
  refine ⟨⟨fun o ho hne => ?_, fun p o hp ho hio hpa => ?_, fun o ho hio => ?_, fun j hj => ?_, fun j h1 h2 => ?_, ?_, fun o ho hoi => ?_⟩, fun o ho hne => (a2 1 o ho (fun z => hne z.2) (by omega)).1⟩
  · have b := a2 0 o (by omega) (by omega) (by omega)
    exact rl_mv (p1 o ho hne) b.1 b.2 (k2 (21, 27, 0) _ rfl) (k2 (21, 28, 0) _ rfl)
  · have b := a2 (6 + o) p (by omega) (by omega) (by omega)
    exact rl_mv (p2 p o hp ho (by omega) hpa) b.1 b.2 (k2 (21, 29, 0) _ rfl) (k2 (21, 30, 0) _ rfl)
  · rw [(a2 (6 + o) a (by omega) (by omega) (by omega)).1]
    exact p3 o ho (by omega)
  · rw [k1 (8, a, 0) 2 rfl, k2 (21, 14, 0) _ rfl]
    exact p4 j hj
  · rw [k1 (8, a, 0) 2 rfl]
    exact p5 j h1 h2
  · rw [k1 (7, a, 0) 2 rfl, k2 (21, 8, 0) a rfl]
    exact p6
  · rcases Classical.em (o = i) with e | e
    · rw [e]
      exact a1
    · have b := a2 1 o (by omega) (fun z => e z.2) (by omega)
      have b3 := a3 (6 * a + o) (by omega)
      exact rl_mv (p7 o ho (by omega)) b.1 b.2 b3.1 b3.2
set_option maxRecDepth 4000 in
/-- all that a node agrees on -/
theorem ag_all {n a : Nat} {f g : FI} (hn : n ≤ 6) (ha : a < n) (h : AR n a 0 f g) (h1 : ∀ i, i < n → sp_64 f a 1 i = false) : AR n a n (lq_it n (sp_46_2 n a) f) (lq_it n (sp_82_32 n a) g) := by
  have e := rel_it (N := n) (F := sp_46_2 n a) (G := sp_82_32 n a) (R := fun i F S => AR n a i F S ∧ ∀ o, o < n → i ≤ o → sp_64 F a 1 o = false) (s0 := f) (t0 := g) ⟨h, fun o ho _ => h1 o ho⟩ (fun i F S hi hR => by
    have b := ag_in hn ha hi hR.1 (hR.2 i hi (Nat.le_refl _))
    refine ⟨b.1, fun o ho hio => ?_⟩
    rw [b.2 o (by omega) (by omega)]
    exact hR.2 o ho (by omega))
  exact e.1
