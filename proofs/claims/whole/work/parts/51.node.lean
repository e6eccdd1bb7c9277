/-! A node by itself: agreeing, control, members, side by side. -/
/-- the cells of other nodes stay -/
def kn (a : Nat) (f g : FI) : Prop := ∀ t q c j, ¬ q = a → g (t, q, c) j = f (t, q, c) j
set_option maxRecDepth 4000 in
theorem kn_re (a : Nat) (f : FI) : kn a f f := fun _ _ _ _ _ => rfl
set_option maxRecDepth 4000 in
theorem kn_tr {a : Nat} {f g h : FI} (x : kn a f g) (y : kn a g h) : kn a f h := fun t q c j hq => (y t q c j hq).trans (x t q c j hq)
set_option maxRecDepth 4000 in
theorem kn_up {a t c k : Nat} {f g : FI} {v : Int32} (h : kn a f g) : kn a f (xm_up g (t, a, c) k v) := fun t' q c' j hq => by
  rw [up_ne _ _ (fun z => hq (by have := z.1; simp at this; exact this.2.1))]
  exact h t' q c' j hq
set_option maxRecDepth 4000 in
theorem kn_if {a : Nat} {f x y : FI} {p : Prop} [Decidable p] (hx : kn a f x) (hy : kn a f y) : kn a f (if p then x else y) := by
  split
  · exact hx
  · exact hy
set_option maxRecDepth 4000 in
theorem kn_it {a N : Nat} {F : Nat → FI → FI} {f : FI} (h : ∀ i s, kn a s (F i s)) : kn a f (lq_it N F f) := by
  induction N with
  | zero => exact kn_re a f
  | succ N ih => exact kn_tr ih (h N _)
set_option maxRecDepth 4000 in
theorem kn_63 (f : FI) (a k p : Nat) (x : Int32) : kn a f (sp_63 f a k p x) := kn_up (kn_up (kn_re a f))
set_option maxRecDepth 4000 in
theorem kn_62 (f : FI) (a k : Nat) : kn a f (sp_62 f a k) := kn_up (kn_re a f)
set_option maxRecDepth 4000 in
theorem kn_47 (n : Nat) (f : FI) (a i : Nat) : kn a f (sp_47 n f a i) := by
  have h1 : kn a f (if (bI (sp_64 f a 0 i)) = 0 then f else (sp_63 f a (6 + i) a (sp_65 f a 0 i))) := kn_if (kn_re a f) (kn_63 _ _ _ _ _)
  exact kn_if (kn_63 _ _ _ _ _) (kn_if h1 (kn_tr h1 (kn_63 _ _ _ _ _)))
set_option maxRecDepth 4000 in
theorem kn_51 (a : Nat) (x : Int32) : ∀ p f, kn a f (sp_51_2 a x p f) := by
  intro p
  induction p with
  | zero => exact fun f => kn_up (kn_re a f)
  | succ p ih =>
    intro f
    unfold sp_51_2
    exact kn_if (kn_up (kn_re a f)) (kn_tr (kn_up (kn_re a f)) (ih _))
set_option maxRecDepth 4000 in
theorem kn_49 (n : Nat) (f : FI) (a : Nat) : kn a f (sp_49 n f a).2 := by
  refine inv_it (N := n) (F := sp_49_4 a) (s0 := (0, f)) (R := fun _ (s : Nat × FI) => kn a f s.2) (kn_re a f) (fun i s hi hs => ?_)
  unfold sp_49_4
  split
  · exact hs
  · split
    · exact hs
    · exact kn_tr hs (kn_51 a _ _ _)
set_option maxRecDepth 4000 in
theorem kn_48 (n : Nat) (f : FI) (fl : FL) (a : Nat) : kn a f (sp_48 n f fl a) := kn_if (kn_49 n f a) (kn_up (kn_up (kn_up (kn_up (kn_49 n f a)))))
set_option maxRecDepth 4000 in
theorem kn_52 (f : FI) (a i : Nat) (x : Int32) : kn a f (sp_52 f a i x) := kn_if (kn_up (kn_re a f)) (kn_if (kn_up (kn_re a f)) (kn_up (kn_up (kn_re a f))))
set_option maxRecDepth 4000 in
theorem kn_46 (n : Nat) (f : FI) (fl : FL) (a : Nat) : kn a f (sp_46 n f fl a) := kn_tr (kn_tr (kn_it (fun i s => kn_47 n s a i)) (kn_48 n _ fl a)) (kn_it (fun i s => kn_52 s a i _))
set_option maxRecDepth 4000 in
theorem kn_14 (n : Nat) (fl : FL) (a : Nat) (f : FI) : kn a f (sp_14_14 n fl a f) := kn_if (kn_46 n f fl a) (kn_re a f)
/-- the cells of a node, the same -/
def sn (a : Nat) (f g : FI) : Prop := ∀ t c j, g (t, a, c) j = f (t, a, c) j
set_option maxRecDepth 4000 in
theorem sn_64 {a : Nat} {f g : FI} (h : sn a f g) (c p : Nat) : sp_64 g a c p = sp_64 f a c p := by
  unfold sp_64
  rw [h 9 c 1]
set_option maxRecDepth 4000 in
theorem rl_sn {a : Nat} {f f' g : FI} (h : sn a f f') {G c p I : Nat} (x : rl f g G c a p I) : rl f' g G c a p I := rl_mv x (sn_64 h c p) (h 10 c p) rfl rfl
set_option maxRecDepth 4000 in
theorem SY_sn {n a : Nat} {f f' g : FI} (h : sn a f f') (x : SY n a f g) : SY n a f' g := by
  unfold SY
  rw [h 8 0 0, h 8 0 1, h 8 0 2, h 8 0 3]
  exact x
set_option maxRecDepth 4000 in
theorem AR_sn {n a i : Nat} {f f' g : FI} (h : sn a f f') (x : AR n a i f g) : AR n a i f' g := by
  obtain ⟨p1, p2, p3, p4, p5, p6, p7⟩ := x
  refine ⟨fun o ho hne => rl_sn h (p1 o ho hne), fun p o hp ho hio hpa => rl_sn h (p2 p o hp ho hio hpa), fun o ho hio => ?_, ?_, ?_, ?_, fun o ho hoi => rl_sn h (p7 o ho hoi)⟩
  · rw [sn_64 h]
    exact p3 o ho hio
  · rw [h 8 0 2]
    exact p4
  · rw [h 8 0 2]
    exact p5
  · rw [h 7 0 2]
    exact p6
set_option maxRecDepth 4000 in
theorem AR_kp {n a i : Nat} {f g g' : FI} {L : List Nat} (x : AR n a i f g) (k : kp L g g') (e : (L.contains 2127 || L.contains 2128 || L.contains 2129 || L.contains 2130 || L.contains 2114 || L.contains 2108) = false) (h16 : ∀ o, o < n → o < i → g' (21, 16, 0) (6 * a + o) = g (21, 16, 0) (6 * a + o) ∧ g' (21, 17, 0) (6 * a + o) = g (21, 17, 0) (6 * a + o)) : AR n a i f g' := by
  simp only [Bool.or_eq_false_iff] at e
  obtain ⟨p1, p2, p3, p4, p5, p6, p7⟩ := x
  refine ⟨fun o ho hne => rl_mv (p1 o ho hne) rfl rfl (k (21, 27, 0) _ e.1.1.1.1.1) (k (21, 28, 0) _ e.1.1.1.1.2), fun p o hp ho hio hpa => rl_mv (p2 p o hp ho hio hpa) rfl rfl (k (21, 29, 0) _ e.1.1.1.2) (k (21, 30, 0) _ e.1.1.2), p3, fun j hj => ?_, p5, ?_, fun o ho hoi => rl_mv (p7 o ho hoi) rfl rfl (h16 o ho hoi).1 (h16 o ho hoi).2⟩
  · rw [k (21, 14, 0) _ e.1.2]
    exact p4 j hj
  · rw [k (21, 8, 0) _ e.2]
    exact p6
set_option maxRecDepth 4000 in
theorem ag_ne1 {n a o q j : Nat} {g : FI} (ha : a < 6) (ho : o < 6) (hq : ¬ q = a) (hj : j < 6) {F : Nat} (hF : F = 16 ∨ F = 17) : (sp_82_32 n a o g) (21, F, 0) (6 * q + j) = g (21, F, 0) (6 * q + j) := by
  unfold sp_82_32
  rcases Classical.em (nI o = nI a) with e | e
  · rw [if_pos e, up_ne _ _ (fun z => by omega), up_ne _ _ (fun z => by omega)]
  · rw [if_neg e]
    unfold sp_83
    have kB : kp [2036, 2137, 2138] g (lq_it n (sp_83_33 a o) (sp_84 (xm_up g (20, 0, 0) 36 (0 : Int32)) (g (21, 27, 0) ((6 * a) + o)) (g (21, 28, 0) ((6 * a) + o)) 0)) := kp_it (p := fun (s : FI) => s) (kp_tr (kp_up (kp_re _ _) rfl) rfl (kp_sp_84 _ _ _ _)) (fun i s => kp_sp_83_33 a o i s)
    rw [up_ne _ _ (fun z => by omega), up_ne _ _ (fun z => by omega)]
    rcases hF with rfl | rfl
    · rw [kp_sp_85 _ _ _ (21, 16, 0) _ rfl, kB (21, 16, 0) _ rfl]
    · rw [kp_sp_85 _ _ _ (21, 17, 0) _ rfl, kB (21, 17, 0) _ rfl]
set_option maxRecDepth 4000 in
theorem ag_ne {n a q j : Nat} {g : FI} (ha : a < 6) (hn : n ≤ 6) (hq : ¬ q = a) (hj : j < 6) {F : Nat} (hF : F = 16 ∨ F = 17) : (sp_82_2 n a g) (21, F, 0) (6 * q + j) = g (21, F, 0) (6 * q + j) := by
  unfold sp_82_2
  have e18 : ∀ v, (xm_up g (21, 18, 0) a v) (21, F, 0) (6 * q + j) = g (21, F, 0) (6 * q + j) := fun v => up_ne _ _ (fun z => by have := z.1; simp at this; omega)
  refine if_at ?_ (e18 _)
  exact inv_it (N := n) (F := sp_82_32 n a) (R := fun _ (s : FI) => s (21, F, 0) (6 * q + j) = g (21, F, 0) (6 * q + j)) (e18 _) (fun i s hi hs => (ag_ne1 ha (by omega) hq hj hF).trans hs)
set_option maxRecDepth 4000 in
/-- after the reference's agreeing -/
theorem st_82 {n : Nat} {g : FI} (hn : n ≤ 6) : kp [2036, 2039, 2116, 2117, 2118, 2137, 2138] g (sp_82 n g) ∧ ∀ a, a < n → (sp_82 n g) (21, 18, 0) a = bI (if g (21, 11, 0) a = 0 then true else false) ∧ (g (21, 11, 0) a = 0 → ∀ s, AR n a 0 s g → (∀ i, i < n → sp_64 s a 1 i = false) → AR n a n (lq_it n (sp_46_2 n a) s) (sp_82 n g)) := by
  refine inv_it (N := n) (F := sp_82_2 n) (s0 := g) (R := fun i (t : FI) => kp [2036, 2039, 2116, 2117, 2118, 2137, 2138] g t ∧ ∀ a, a < i → t (21, 18, 0) a = bI (if g (21, 11, 0) a = 0 then true else false) ∧ (g (21, 11, 0) a = 0 → ∀ s, AR n a 0 s g → (∀ i, i < n → sp_64 s a 1 i = false) → AR n a n (lq_it n (sp_46_2 n a) s) t)) ⟨kp_re _ _, fun a ha => absurd ha (Nat.not_lt_zero a)⟩ ?_
  intro i t hi ht
  obtain ⟨hk, hA⟩ := ht
  have k2 := kp_sp_82_2 n i t
  have e18 : ∀ q, (sp_82_2 n i t) (21, 18, 0) q = if q = i then bI (if g (21, 11, 0) i = 0 then true else false) else t (21, 18, 0) q := by
    intro q
    have kk : ∀ s : FI, (lq_it n (sp_82_32 n i) s) (21, 18, 0) q = s (21, 18, 0) q := fun s => (kp_it (p := fun (s : FI) => s) (L := [2036, 2039, 2116, 2117, 2137, 2138]) (kp_re _ _) (fun j s => kp_sp_82_32 n i j s)) (21, 18, 0) q rfl
    unfold sp_82_2
    rw [hk (21, 11, 0) i rfl]
    refine if_at ?_ ?_
    · rw [kk]
      rcases Classical.em (q = i) with e | e
      · rw [if_pos e, e, up_eq]
      · rw [if_neg e, up_ne _ _ (fun z => e z.2)]
    · rcases Classical.em (q = i) with e | e
      · rw [if_pos e, e, up_eq]
      · rw [if_neg e, up_ne _ _ (fun z => e z.2)]
  refine ⟨kp_tr hk rfl k2, fun a ha => ⟨?_, fun hl s hs h1 => ?_⟩⟩
  · rw [e18]
    rcases Classical.em (a = i) with e | e
    · rw [if_pos e, e]
    · rw [if_neg e]
      exact (hA a (by omega)).1
  · rcases Classical.em (a = i) with e | e
    · subst e
      have e2 : sp_82_2 n a t = lq_it n (sp_82_32 n a) (xm_up t (21, 18, 0) a (bI (if (t (21, 11, 0) a) = 0 then true else false))) := if_pos (by rw [hk (21, 11, 0) a rfl]; exact hl)
      rw [e2]
      refine ag_all hn hi (AR_kp hs (L := [2036, 2039, 2116, 2117, 2118, 2137, 2138]) (kp_up hk rfl) rfl (fun o _ ho => absurd ho (Nat.not_lt_zero o))) h1
    · exact AR_kp ((hA a (by omega)).2 hl s hs h1) k2 rfl (fun o ho _ => ⟨ag_ne (by omega) hn e (by omega) (Or.inl rfl), ag_ne (by omega) hn e (by omega) (Or.inr rfl)⟩)
set_option maxRecDepth 4000 in
/-- after the reference's control -/
theorem st_47 {n : Nat} {g : FI} {fl : FL} (hn : n ≤ 6) : kp [2112, 2113, 2119, 2120] g (lq_it n (sp_70_47 n) g) ∧ ∀ a, a < n → (¬ g (21, 11, 0) a = 0 → (lq_it n (sp_70_47 n) g) (21, 19, 0) a = 0 ∧ (lq_it n (sp_70_47 n) g) (21, 12, 0) a = g (21, 12, 0) a ∧ (lq_it n (sp_70_47 n) g) (21, 13, 0) a = g (21, 13, 0) a) ∧ (g (21, 11, 0) a = 0 → ∀ s, AM n a s g → GN s fl g → s (8, a, 0) 0 = g (21, 12, 0) a → s (8, a, 0) 1 = g (21, 13, 0) a → s (7, a, 0) 11 = 0 → (sp_48 n s fl a) (7, a, 0) 11 = (lq_it n (sp_70_47 n) g) (21, 19, 0) a ∧ (¬ (sp_48 n s fl a) (7, a, 0) 11 = 0 → (sp_48 n s fl a) (7, a, 0) 12 = (lq_it n (sp_70_47 n) g) (21, 20, 0) a) ∧ (sp_48 n s fl a) (8, a, 0) 0 = (lq_it n (sp_70_47 n) g) (21, 12, 0) a ∧ (sp_48 n s fl a) (8, a, 0) 1 = (lq_it n (sp_70_47 n) g) (21, 13, 0) a ∧ (∀ j, 2 ≤ j → (sp_48 n s fl a) (8, a, 0) j = s (8, a, 0) j)) := by
  have e := inv_it (N := n) (F := sp_70_47 n) (s0 := g) (R := fun i (t : FI) => kp [2112, 2113, 2119, 2120] g t ∧ (∀ q, i ≤ q → t (21, 12, 0) q = g (21, 12, 0) q ∧ t (21, 13, 0) q = g (21, 13, 0) q) ∧ ∀ a, a < i → (¬ g (21, 11, 0) a = 0 → t (21, 19, 0) a = 0 ∧ t (21, 12, 0) a = g (21, 12, 0) a ∧ t (21, 13, 0) a = g (21, 13, 0) a) ∧ (g (21, 11, 0) a = 0 → ∀ s, AM n a s g → GN s fl g → s (8, a, 0) 0 = g (21, 12, 0) a → s (8, a, 0) 1 = g (21, 13, 0) a → s (7, a, 0) 11 = 0 → (sp_48 n s fl a) (7, a, 0) 11 = t (21, 19, 0) a ∧ (¬ (sp_48 n s fl a) (7, a, 0) 11 = 0 → (sp_48 n s fl a) (7, a, 0) 12 = t (21, 20, 0) a) ∧ (sp_48 n s fl a) (8, a, 0) 0 = t (21, 12, 0) a ∧ (sp_48 n s fl a) (8, a, 0) 1 = t (21, 13, 0) a ∧ (∀ j, 2 ≤ j → (sp_48 n s fl a) (8, a, 0) j = s (8, a, 0) j))) ⟨kp_re _ _, fun _ _ => ⟨rfl, rfl⟩, fun a ha => absurd ha (Nat.not_lt_zero a)⟩ ?_
  · exact ⟨e.1, e.2.2⟩
  · intro i t hi ht
    obtain ⟨hk, hU, hA⟩ := ht
    have hne : ∀ q, ¬ q = i → ∀ F, (sp_70_47 n i t) (21, F, 0) q = t (21, F, 0) q := by
      intro q hq F
      unfold sp_70_47
      refine if_at ?_ ?_
      · rw [ctl_ne hq, up_ne _ _ (fun z => hq z.2)]
      · rw [up_ne _ _ (fun z => hq z.2)]
    refine ⟨kp_tr hk rfl (kp_sp_70_47 n i t), fun q hq => ?_, fun a ha => ?_⟩
    · rw [hne q (by omega), hne q (by omega)]
      exact hU q (by omega)
    · rcases Classical.em (a = i) with e | e
      · subst e
        have u := hU a (Nat.le_refl _)
        refine ⟨fun hl => ?_, fun hl s h1 h2 h3 h4 h5 => ?_⟩
        · have e2 : sp_70_47 n a t = xm_up t (21, 19, 0) a 0 := if_neg (by rw [hk (21, 11, 0) a rfl]; exact hl)
          rw [e2, up_eq, up_ne _ _ (by simp), up_ne _ _ (by simp)]
          exact ⟨rfl, u.1, u.2⟩
        · have e2 : sp_70_47 n a t = sp_86 n (xm_up t (21, 19, 0) a 0) a := if_pos (by rw [hk (21, 11, 0) a rfl]; exact hl)
          rw [e2]
          have kk : kp [2112, 2113, 2119, 2120] g (xm_up t (21, 19, 0) a 0) := kp_up hk rfl
          have m : AM n a s (xm_up t (21, 19, 0) a 0) := ⟨fun o ho => rl_mv (h1.1 o ho) rfl rfl (kk (21, 16, 0) _ rfl) (kk (21, 17, 0) _ rfl), fun j hj => by rw [kk (21, 14, 0) _ rfl]; exact h1.2 j hj⟩
          have gn : GN s fl (xm_up t (21, 19, 0) a 0) := by
            unfold GN
            rw [kk (20, 0, 0) 4 rfl, kk (20, 0, 0) 5 rfl, kk (20, 0, 0) 6 rfl, kk (20, 0, 0) 7 rfl]
            exact h2
          have c := ctl_eq hn m gn (by rw [up_ne _ _ (by simp), u.1]; exact h3) (by rw [up_ne _ _ (by simp), u.2]; exact h4) h5
          exact ⟨c.1, c.2.1, c.2.2.1, c.2.2.2.1, c.2.2.2.2.1⟩
      · have u := hA a (by omega)
        rw [hne a e 19, hne a e 12, hne a e 13, hne a e 20]
        exact u
set_option maxRecDepth 4000 in
/-- after the reference's members -/
theorem st_84 {n K : Nat} {g : FI} (hn : n ≤ 6) (hK2 : g (20, 0, 0) 2 = nI K) (hK : 0 < K) (hK8 : K < 16) : kp [2114, 2115] g (lq_it n (sp_70_84 n) g) ∧ ∀ a, a < n → (¬ g (21, 11, 0) a = 0 → ∀ s, SY n a s g → SY n a s (lq_it n (sp_70_84 n) g)) ∧ (g (21, 11, 0) a = 0 → ∀ s, SY n a s g → (∀ o, o < n → g (21, 16, 0) (6 * a + o) = bI (sp_64 s a 1 o)) → s (1, 0, 0) 0 = nI K → SY n a (lq_it n (sp_46_28 a) s) (lq_it n (sp_70_84 n) g)) := by
  have mv : ∀ {a : Nat} {s t t' : FI}, SY n a s t → (∀ F, F = 12 ∨ F = 13 → t' (21, F, 0) a = t (21, F, 0) a) → (∀ j, j < n → t' (21, 14, 0) (6 * a + j) = t (21, 14, 0) (6 * a + j) ∧ t' (21, 15, 0) (6 * a + j) = t (21, 15, 0) (6 * a + j)) → SY n a s t' := by
    intro a s t t' h h1 h2
    obtain ⟨s0, s1, s2, s3, s4, s5, s6⟩ := h
    refine ⟨?_, ?_, fun j hj => ?_, s3, fun j b hj hb => ?_, fun j b hj h4 hb => ?_, s6⟩
    · rw [h1 12 (Or.inl rfl)]
      exact s0
    · rw [h1 13 (Or.inr rfl)]
      exact s1
    · rw [(h2 j hj).1]
      exact s2 j hj
    · rw [(h2 j hj).2]
      exact s4 j b hj hb
    · rw [(h2 j hj).2]
      exact s5 j b hj h4 hb
  have e := inv_it (N := n) (F := sp_70_84 n) (s0 := g) (R := fun i (t : FI) => kp [2114, 2115] g t ∧ (∀ q j, i ≤ q → q < n → j < n → t (21, 14, 0) (6 * q + j) = g (21, 14, 0) (6 * q + j) ∧ t (21, 15, 0) (6 * q + j) = g (21, 15, 0) (6 * q + j)) ∧ ∀ a, a < i → (¬ g (21, 11, 0) a = 0 → ∀ s, SY n a s g → SY n a s t) ∧ (g (21, 11, 0) a = 0 → ∀ s, SY n a s g → (∀ o, o < n → g (21, 16, 0) (6 * a + o) = bI (sp_64 s a 1 o)) → s (1, 0, 0) 0 = nI K → SY n a (lq_it n (sp_46_28 a) s) t)) ⟨kp_re _ _, fun _ _ _ _ _ => ⟨rfl, rfl⟩, fun a ha => absurd ha (Nat.not_lt_zero a)⟩ ?_
  · exact ⟨e.1, e.2.2⟩
  · intro i t hi ht
    obtain ⟨hk, hU, hA⟩ := ht
    have k2 := kp_sp_70_84 n i t
    have hne : ∀ q j, ¬ q = i → j < n → ∀ F, (sp_70_84 n i t) (21, F, 0) (6 * q + j) = t (21, F, 0) (6 * q + j) := by
      intro q j hq hj F
      unfold sp_70_84
      exact if_at (mem_ne (by omega) hq hn (by omega) F) rfl
    refine ⟨kp_tr hk rfl k2, fun q j hq hqn hj => ?_, fun a ha => ?_⟩
    · rw [hne q j (by omega) hj, hne q j (by omega) hj]
      exact hU q j (by omega) hqn hj
    · have kF : ∀ a F, F = 12 ∨ F = 13 → (sp_70_84 n i t) (21, F, 0) a = t (21, F, 0) a := fun a F hF => by
        rcases hF with rfl | rfl
        · exact k2 (21, 12, 0) a rfl
        · exact k2 (21, 13, 0) a rfl
      rcases Classical.em (a = i) with e | e
      · subst e
        have base : ∀ s, SY n a s g → SY n a s t := fun s hs => mv hs (fun F hF => by
          rcases hF with rfl | rfl
          · exact hk (21, 12, 0) a rfl
          · exact hk (21, 13, 0) a rfl) (fun j hj => hU a j (Nat.le_refl _) hi hj)
        refine ⟨fun hl s hs => ?_, fun hl s hs h16 h0 => ?_⟩
        · have e2 : sp_70_84 n a t = t := if_neg (by rw [hk (21, 11, 0) a rfl]; exact hl)
          rw [e2]
          exact base s hs
        · have e2 : sp_70_84 n a t = sp_90 n t a := if_pos (by rw [hk (21, 11, 0) a rfl]; exact hl)
          rw [e2]
          exact mb_all hn hi (base s hs) (fun o ho => by rw [hk (21, 16, 0) _ rfl]; exact h16 o ho) h0 ((hk (20, 0, 0) 2 rfl).trans hK2) hK hK8
      · refine ⟨fun hl s hs => mv ((hA a (by omega)).1 hl s hs) (kF a) (fun j hj => ⟨hne a j e hj 14, hne a j e hj 15⟩), fun hl s hs h16 h0 => mv ((hA a (by omega)).2 hl s hs h16 h0) (kF a) (fun j hj => ⟨hne a j e hj 14, hne a j e hj 15⟩)⟩
def PP (n a : Nat) (f g : FI) : Prop := SY n a f g ∧ f (7, a, 0) 11 = g (21, 19, 0) a ∧ (¬ f (7, a, 0) 11 = 0 → f (7, a, 0) 12 = g (21, 20, 0) a) ∧ (f (7, a, 0) 3 = 0 → ∀ o, o < n → rl f g 16 1 a o (6 * a + o))
set_option maxRecDepth 4000 in
theorem PP_sn {n a : Nat} {f f' g : FI} (h : sn a f f') (x : PP n a f g) : PP n a f' g := by
  obtain ⟨x1, x2, x3, x4⟩ := x
  refine ⟨SY_sn h x1, ?_, ?_, ?_⟩
  · rw [h 7 0 11]
    exact x2
  · rw [h 7 0 11, h 7 0 12]
    exact x3
  · rw [h 7 0 3]
    exact fun z o ho => rl_sn h (x4 z o ho)
set_option maxRecDepth 4000 in
/-- the three together -/
theorem mid_all {n K : Nat} {f g : FI} {fl : FL} (hn : n ≤ 6) (hG : GN f fl g) (hK1 : f (1, 0, 0) 0 = nI K) (hK2 : g (20, 0, 0) 2 = nI K) (hK : 0 < K) (hK8 : K < 16) (hO : ∀ p, p < n → f (7, p, 0) 3 = g (21, 11, 0) p) (hS : ∀ a, a < n → SY n a f g) (hR : ∀ a, a < n → AR n a 0 f g) (h1 : ∀ a i, a < n → i < n → sp_64 f a 1 i = false) (h11 : ∀ a, a < n → f (7, a, 0) 11 = 0) :
    ∀ a, a < n → PP n a (lq_it n (sp_14_14 n fl) f) (lq_it n (sp_70_84 n) (lq_it n (sp_70_47 n) (sp_82 n g))) ∧ (lq_it n (sp_70_84 n) (lq_it n (sp_70_47 n) (sp_82 n g))) (21, 18, 0) a = bI (if g (21, 11, 0) a = 0 then true else false) ∧ (¬ g (21, 11, 0) a = 0 → (lq_it n (sp_70_84 n) (lq_it n (sp_70_47 n) (sp_82 n g))) (21, 19, 0) a = 0) := by
  obtain ⟨k1, c1⟩ := st_82 (g := g) hn
  obtain ⟨k2, c2⟩ := st_47 (g := sp_82 n g) (fl := fl) hn
  have hK3 : (lq_it n (sp_70_47 n) (sp_82 n g)) (20, 0, 0) 2 = nI K := by rw [k2 (20, 0, 0) 2 rfl, k1 (20, 0, 0) 2 rfl]; exact hK2
  obtain ⟨k3, c3⟩ := st_84 hn hK3 hK hK8
  generalize sp_82 n g = g1 at *
  generalize lq_it n (sp_70_47 n) g1 = g2 at *
  generalize lq_it n (sp_70_84 n) g2 = g3 at *
  have e := inv_it (N := n) (F := sp_14_14 n fl) (s0 := f) (R := fun i (s : FI) => kp [711, 712, 800, 900, 1000, 1300] f s ∧ (∀ q, i ≤ q → sn q f s) ∧ ∀ a, a < i → PP n a s g3) ⟨kp_re _ _, fun _ _ _ _ _ => rfl, fun a ha => absurd ha (Nat.not_lt_zero a)⟩ ?_
  · intro a ha
    refine ⟨e.2.2 a ha, ?_, fun z => ?_⟩
    · rw [k3 (21, 18, 0) a rfl, k2 (21, 18, 0) a rfl]
      exact (c1 a ha).1
    · rw [k3 (21, 19, 0) a rfl]
      exact ((c2 a ha).1 (by rw [k1 (21, 11, 0) a rfl]; exact z)).1
  · intro i s hi hs
    obtain ⟨hk, hU, hA⟩ := hs
    have kk := kn_14 n fl i s
    refine ⟨kp_tr hk rfl (kp_sp_14_14 n fl i s), fun q hq t c j => ?_, fun a ha => ?_⟩
    · rw [kk t q c j (by omega)]
      exact hU q (by omega) t c j
    · rcases Classical.em (a = i) with e | e
      · subst e
        have us := hU a (Nat.le_refl _)
        have hl := hO a hi
        have hsl : s (7, a, 0) 3 = g (21, 11, 0) a := (us 7 0 3).trans hl
        have hsS := SY_sn us (hS a hi)
        rcases Classical.em (g (21, 11, 0) a = 0) with z | z
        · have e2 : sp_14_14 n fl a s = sp_46 n s fl a := if_pos (hsl.trans z)
          rw [e2]
          have q1 := (c1 a hi).2 z s (AR_sn us (hR a hi)) (fun i hi' => by rw [sn_64 us]; exact h1 a i hi hi')
          have ka : kp [900, 1000] s (lq_it n (sp_46_2 n a) s) := kp_it (p := fun (s : FI) => s) (kp_re _ _) (fun i s => kp_sp_46_2 n a i s)
          unfold sp_46
          generalize lq_it n (sp_46_2 n a) s = s1 at *
          obtain ⟨p1, p2, p3, p4, p5, p6, p7⟩ := q1
          have m : AM n a s1 g1 := ⟨fun o ho => p7 o ho ho, p4⟩
          have gn : GN s1 fl g1 := by
            unfold GN
            rw [ka (1, 0, 0) 1 rfl, hk (1, 0, 0) 1 rfl, k1 (20, 0, 0) 4 rfl, k1 (20, 0, 0) 5 rfl, k1 (20, 0, 0) 6 rfl, k1 (20, 0, 0) 7 rfl]
            exact hG
          have q2 := (c2 a hi).2 ((k1 (21, 11, 0) a rfl).trans z) s1 m gn (by rw [ka (8, a, 0) 0 rfl, k1 (21, 12, 0) a rfl]; exact hsS.1) (by rw [ka (8, a, 0) 1 rfl, k1 (21, 13, 0) a rfl]; exact hsS.2.1) (by rw [ka (7, a, 0) 11 rfl, us 7 0 11]; exact h11 a hi)
          have kb := kp_sp_48 n s1 fl a
          generalize sp_48 n s1 fl a = s2 at *
          obtain ⟨d1, d2, d3, d4, d5⟩ := q2
          have sy2 : SY n a s2 g2 := by
            refine ⟨d3, d4, ?_⟩
            rw [d5 2 (by omega), d5 3 (by omega), ka (8, a, 0) 2 rfl, ka (8, a, 0) 3 rfl]
            have x := hsS.2.2
            refine ⟨fun j hj => ?_, x.2.1, fun j b hj hb => ?_, fun j b hj h4 hb => ?_, x.2.2.2.2⟩
            · rw [k2 (21, 14, 0) _ rfl, k1 (21, 14, 0) _ rfl]
              exact x.1 j hj
            · rw [k2 (21, 15, 0) _ rfl, k1 (21, 15, 0) _ rfl]
              exact x.2.2.1 j b hj hb
            · rw [k2 (21, 15, 0) _ rfl, k1 (21, 15, 0) _ rfl]
              exact x.2.2.2.1 j b hj h4 hb
          have sy3 := (c3 a hi).2 (by rw [k2 (21, 11, 0) a rfl, k1 (21, 11, 0) a rfl]; exact z) s2 sy2 (fun o ho => by rw [k2 (21, 16, 0) _ rfl, h_kp kb rfl]; exact (m.1 o ho).1) (by rw [kb (1, 0, 0) 0 rfl, ka (1, 0, 0) 0 rfl, hk (1, 0, 0) 0 rfl]; exact hK1)
          have kc : kp [800] s2 (lq_it n (sp_46_28 a) s2) := kp_it (p := fun (s : FI) => s) (kp_re _ _) (fun i s => kp_sp_46_28 a i s)
          refine ⟨sy3, ?_, ?_, fun _ o ho => ?_⟩
          · rw [kc (7, a, 0) 11 rfl, k3 (21, 19, 0) a rfl]
            exact d1
          · rw [kc (7, a, 0) 11 rfl, kc (7, a, 0) 12 rfl, k3 (21, 20, 0) a rfl]
            exact d2
          · exact rl_mv (m.1 o ho) ((h_kp kc rfl _ _ _).trans (h_kp kb rfl _ _ _)) ((kc (10, a, 1) o rfl).trans (kb (10, a, 1) o rfl)) ((k3 (21, 16, 0) _ rfl).trans (k2 (21, 16, 0) _ rfl)) ((k3 (21, 17, 0) _ rfl).trans (k2 (21, 17, 0) _ rfl))
        · have e2 : sp_14_14 n fl a s = s := if_neg (by rw [hsl]; exact z)
          rw [e2]
          have q2 := (c2 a hi).1 (by rw [k1 (21, 11, 0) a rfl]; exact z)
          have sy2 : SY n a s g2 := by
            obtain ⟨s0, s1, s2, s3, s4, s5, s6⟩ := hsS
            refine ⟨?_, ?_, fun j hj => ?_, s3, fun j b hj hb => ?_, fun j b hj h4 hb => ?_, s6⟩
            · rw [q2.2.1, k1 (21, 12, 0) a rfl]
              exact s0
            · rw [q2.2.2, k1 (21, 13, 0) a rfl]
              exact s1
            · rw [k2 (21, 14, 0) _ rfl, k1 (21, 14, 0) _ rfl]
              exact s2 j hj
            · rw [k2 (21, 15, 0) _ rfl, k1 (21, 15, 0) _ rfl]
              exact s4 j b hj hb
            · rw [k2 (21, 15, 0) _ rfl, k1 (21, 15, 0) _ rfl]
              exact s5 j b hj h4 hb
          have h0 : s (7, a, 0) 11 = 0 := (us 7 0 11).trans (h11 a hi)
          refine ⟨(c3 a hi).1 (by rw [k2 (21, 11, 0) a rfl, k1 (21, 11, 0) a rfl]; exact z) s sy2, ?_, fun y => absurd h0 y, fun y => absurd (hsl.symm.trans y) z⟩
          rw [h0, k3 (21, 19, 0) a rfl]
          exact q2.1.symm
      · exact PP_sn (fun t c j => kk t a c j e) (hA a (by omega))
