/-! A round, side by side. -/
def kc (C : Nat → Nat → Bool) (f g : FI) : Prop := ∀ i c j, C i c = false → g (9, i, c) j = f (9, i, c) j ∧ g (10, i, c) j = f (10, i, c) j
set_option maxRecDepth 4000 in
theorem kc_re (C : Nat → Nat → Bool) (f : FI) : kc C f f := fun _ _ _ _ => ⟨rfl, rfl⟩
set_option maxRecDepth 4000 in
theorem kc_tr {C : Nat → Nat → Bool} {f g h : FI} (x : kc C f g) (y : kc C g h) : kc C f h := fun i c j hc => ⟨(y i c j hc).1.trans (x i c j hc).1, (y i c j hc).2.trans (x i c j hc).2⟩
set_option maxRecDepth 4000 in
theorem kc_sub {C D : Nat → Nat → Bool} {f g : FI} (x : kc C f g) (h : ∀ i c, D i c = false → C i c = false) : kc D f g := fun i c j hc => x i c j (h i c hc)
set_option maxRecDepth 4000 in
theorem kc_if {C : Nat → Nat → Bool} {f x y : FI} {p : Prop} [Decidable p] (hx : kc C f x) (hy : kc C f y) : kc C f (if p then x else y) := by
  split
  · exact hx
  · exact hy
set_option maxRecDepth 4000 in
theorem kc_it {C : Nat → Nat → Bool} {N : Nat} {F : Nat → FI → FI} {f : FI} (h : ∀ i s, i < N → kc C s (F i s)) : kc C f (lq_it N F f) := by
  induction N with
  | zero => exact kc_re C f
  | succ N ih => exact kc_tr (ih (fun i s hi => h i s (by omega))) (h N _ (by omega))
set_option maxRecDepth 4000 in
theorem kc_kp {C : Nat → Nat → Bool} {L : List Nat} {f g : FI} (k : kp L f g) (e1 : L.contains 900 = false) (e2 : L.contains 1000 = false) : kc C f g := fun i c j _ => ⟨k (9, i, c) j e1, k (10, i, c) j e2⟩
set_option maxRecDepth 4000 in
theorem kc_63 {C : Nat → Nat → Bool} {i k : Nat} (h : C i k = true) (f : FI) (p : Nat) (x : Int32) : kc C f (sp_63 f i k p x) := by
  intro i' c j hc
  have hne : ¬ (i' = i ∧ c = k) := fun z => by rw [z.1, z.2, h] at hc; cases hc
  unfold sp_63
  constructor
  · rw [up_ne _ _ (fun z => hne (by have := z.1; simp at this; exact this)), up_ne _ _ (by simp)]
  · rw [up_ne _ _ (by simp), up_ne _ _ (fun z => hne (by have := z.1; simp at this; exact this))]
set_option maxRecDepth 4000 in
theorem kc_39 {C : Nat → Nat → Bool} {i k : Nat} (h : C i k = true) (f : FI) (p : Nat) (q : Int32) (w : Nat) : kc C f (sp_39 f p q i k w) := kc_if (kc_if (kc_re C f) (kc_kp (kp_up (kp_re [500] f) rfl) rfl rfl)) (kc_63 h f w _)
set_option maxRecDepth 4000 in
theorem kc_38 {C : Nat → Nat → Bool} (f : FI) (fl : FL) (p : Nat) (q x : Int32) : kc C f (sp_38 f fl p q x) := kc_kp (kp_sp_38 f fl p q x) rfl rfl
set_option maxRecDepth 4000 in
theorem kc_64 {C : Nat → Nat → Bool} {f g : FI} (h : kc C f g) {i c : Nat} (hc : C i c = false) (p : Nat) : sp_64 g i c p = sp_64 f i c p := by
  unfold sp_64
  rw [(h i c 1 hc).1]
set_option maxRecDepth 4000 in
theorem kc_16 {n : Nat} (hn : n ≤ 6) (f : FI) (fl : FL) : kc (fun i c => decide (i < 6 ∧ c = 0)) f (sp_16 n f fl) := kc_it (fun i s _ => kc_tr (kc_38 s fl i _ _) (kc_it (fun j t hj => kc_if (kc_re _ t) (kc_39 (decide_eq_true ⟨by omega, rfl⟩) t j _ i))))
set_option maxRecDepth 4000 in
theorem kc_17 (n : Nat) (f : FI) (fl : FL) : kc (fun _ c => decide (6 ≤ c)) f (sp_17 n f fl) := kc_it (fun i s _ => kc_it (fun j t _ => kc_if (kc_re _ t) (kc_if (kc_tr (kc_if (kc_38 t fl i _ _) (kc_38 t fl i _ _)) (kc_it (fun k u _ => kc_if (kc_re _ u) (kc_if (kc_39 (decide_eq_true (by omega)) u k _ i) (kc_re _ u))))) (kc_re _ t))))
set_option maxRecDepth 4000 in
theorem kc_47 (n : Nat) (f : FI) (a i : Nat) (ha : a < 6) : kc (fun i c => decide (i < 6 ∧ (c = 1 ∨ 6 ≤ c))) f (sp_47 n f a i) := by
  have h1 : kc (fun i c => decide (i < 6 ∧ (c = 1 ∨ 6 ≤ c))) f (if (bI (sp_64 f a 0 i)) = 0 then f else (sp_63 f a (6 + i) a (sp_65 f a 0 i))) := kc_if (kc_re _ f) (kc_63 (decide_eq_true ⟨ha, by omega⟩) _ _ _)
  exact kc_if (kc_63 (decide_eq_true ⟨ha, by omega⟩) _ _ _) (kc_if h1 (kc_tr h1 (kc_63 (decide_eq_true ⟨ha, by omega⟩) _ _ _)))
set_option maxRecDepth 4000 in
theorem kc_14 {n : Nat} (hn : n ≤ 6) (f : FI) (fl : FL) : kc (fun i c => decide (i < 6 ∧ (c = 1 ∨ 6 ≤ c))) f (lq_it n (sp_14_14 n fl) f) := kc_it (fun a s ha => kc_if (kc_tr (kc_tr (kc_it (fun i t _ => kc_47 n t a i (by omega))) (kc_kp (kp_sp_48 n _ fl a) rfl rfl)) (kc_kp (L := [800]) (kp_it (p := fun (s : FI) => s) (kp_re _ _) (fun i s => kp_sp_46_28 a i s)) rfl rfl)) (kc_re _ s))
set_option maxRecDepth 4000 in
theorem kc_20 (n : Nat) (f : FI) (fl : FL) : kc (fun i c => decide (i = 6 ∧ c = 0)) f (sp_20 n f fl) := kc_it (fun i s _ => kc_if (kc_re _ s) (kc_tr (kc_38 s fl i _ _) (kc_39 (decide_eq_true ⟨rfl, rfl⟩) _ _ _ _)))
set_option maxRecDepth 4000 in
theorem kc_23 (n : Nat) (f : FI) (fl : FL) : kc (fun _ c => decide (2 ≤ c ∧ c < 6)) f (sp_23 n f fl) := kc_it (fun i s _ => kc_it (fun o t ho => kc_if (kc_tr (kc_38 t fl i _ _) (kc_it (fun k u _ => kc_if (kc_re _ u) (kc_39 (decide_eq_true ⟨by omega, by omega⟩) u k _ i)))) (kc_re _ t)))
set_option maxRecDepth 4000 in
theorem kc_68 (n : Nat) (f : FI) : kc (fun _ c => decide (2 ≤ c ∧ c < 6)) f (lq_it n (sp_14_68 n) f) := kc_it (fun a s _ => by
  have h57 : ∀ t, kc (fun _ c => decide (2 ≤ c ∧ c < 6)) t (sp_57 n t a) := fun t => kc_kp (kp_sp_57 n t a) rfl rfl
  have h56 : kc (fun _ c => decide (2 ≤ c ∧ c < 6)) s (sp_56 s a) := kc_it (fun o t ho => kc_63 (decide_eq_true ⟨by omega, by omega⟩) t a _)
  exact kc_if (kc_tr h56 (h57 _)) (kc_if (kc_re _ s) (kc_tr (h57 s) (kc_kp (kp_up (kp_re [703] _) rfl) rfl rfl))))
set_option maxRecDepth 4000 in
theorem kn_45 (n : Nat) (f : FI) (a : Nat) : kn a f (sp_45 n f a) := kn_tr (kn_tr (kn_tr (kn_tr (kn_up (kn_up (kn_re a f))) (kn_62 _ a 0)) (kn_62 _ a 1)) (kn_it (fun i s => kn_62 s a _))) (kn_it (fun i s => kn_62 s a _))
set_option maxRecDepth 4000 in
theorem z_45 {n : Nat} (f : FI) (a : Nat) {c j : Nat} (hc : c < 6 + n) (hj : j < 32) : sp_64 (sp_45 n f a) a c j = false := by
  have e1 := inv_it (N := n) (F := sp_45_37 a) (s0 := sp_62 (sp_62 (xm_up (xm_up f (7, a, 0) 10 (bI (if (f (7, a, 0) 3) = 0 then true else false))) (7, a, 0) 11 (0 : Int32)) a 0) a 1) (R := fun i (s : FI) => ∀ c, c < 2 ∨ (6 ≤ c ∧ c < 6 + i) → sp_64 s a c j = false) (fun c hc => by
    rw [h_62 _ _ _ _ _ hj, h_62 _ _ _ _ _ hj]
    rcases Classical.em (c = 1) with z | z
    · rw [if_pos ⟨rfl, z⟩]
    · rw [if_neg (fun y => z y.2), if_pos ⟨rfl, by omega⟩]) (fun i s hi hs c hc => by
    unfold sp_45_37
    rw [h_62 _ _ _ _ _ hj]
    rcases Classical.em (c = 6 + i) with z | z
    · rw [if_pos ⟨rfl, z⟩]
    · rw [if_neg (fun y => z y.2)]
      exact hs c (by omega))
  have e2 := inv_it (N := 4) (F := sp_45_62 a) (s0 := lq_it n (sp_45_37 a) (sp_62 (sp_62 (xm_up (xm_up f (7, a, 0) 10 (bI (if (f (7, a, 0) 3) = 0 then true else false))) (7, a, 0) 11 (0 : Int32)) a 0) a 1)) (R := fun i (s : FI) => ∀ c, (c < 2 ∨ (6 ≤ c ∧ c < 6 + n)) ∨ (2 ≤ c ∧ c < 2 + i) → sp_64 s a c j = false) (fun c hc => e1 c (by omega)) (fun i s hi hs c hc => by
    unfold sp_45_62
    rw [h_62 _ _ _ _ _ hj]
    rcases Classical.em (c = 2 + i) with z | z
    · rw [if_pos ⟨rfl, z⟩]
    · rw [if_neg (fun y => z y.2)]
      exact hs c (by omega))
  exact e2 c (by omega)
set_option maxRecDepth 4000 in
theorem t_45 (n : Nat) (f : FI) (a : Nat) : (sp_45 n f a) (7, a, 0) 10 = bI (if (f (7, a, 0) 3) = 0 then true else false) ∧ (sp_45 n f a) (7, a, 0) 11 = 0 := by
  have k : kp [900] (xm_up (xm_up f (7, a, 0) 10 (bI (if (f (7, a, 0) 3) = 0 then true else false))) (7, a, 0) 11 (0 : Int32)) (sp_45 n f a) := kp_it (p := fun (s : FI) => s) (kp_it (p := fun (s : FI) => s) (kp_tr (kp_sp_62 _ _ _) rfl (kp_sp_62 _ _ _)) (fun i s => kp_sp_45_37 a i s)) (fun i s => kp_sp_45_62 a i s)
  rw [k (7, a, 0) 10 rfl, k (7, a, 0) 11 rfl]
  exact ⟨by rw [up_ne _ _ (by simp), up_eq], up_eq _ _ _ _⟩
set_option maxRecDepth 4000 in
/-- a round begins -/
theorem beg_15 {n : Nat} {f : FI} (hn : n ≤ 6) : (∀ a c j, a < n → c < 6 + n → j < 32 → sp_64 (sp_15 n f) a c j = false) ∧ (∀ j, j < 32 → sp_64 (sp_15 n f) 6 0 j = false) ∧ (∀ a, a < n → (sp_15 n f) (7, a, 0) 10 = bI (if (f (7, a, 0) 3) = 0 then true else false) ∧ (sp_15 n f) (7, a, 0) 11 = 0) ∧ (sp_15 n f) (2, 0, 0) 4 = (f (0, 0, 0) 4) &&& (255 : Int32) := by
  have k0 : kp [204, 900] f (sp_62 (sp_37 f (f (0, 0, 0) 4)) 6 0) := kp_tr (kp_sub (kp_sp_37 f _) rfl) rfl (kp_sp_62 _ 6 0)
  have e := inv_it (N := n) (F := sp_15_20 n) (s0 := sp_62 (sp_37 f (f (0, 0, 0) 4)) 6 0) (R := fun i (s : FI) => kp [710, 711, 900] (sp_62 (sp_37 f (f (0, 0, 0) 4)) 6 0) s ∧ (∀ q, i ≤ q → sn q (sp_62 (sp_37 f (f (0, 0, 0) 4)) 6 0) s) ∧ ∀ a, a < i → (∀ c j, c < 6 + n → j < 32 → sp_64 s a c j = false) ∧ s (7, a, 0) 10 = bI (if (f (7, a, 0) 3) = 0 then true else false) ∧ s (7, a, 0) 11 = 0) ⟨kp_re _ _, fun _ _ _ _ _ => rfl, fun a ha => absurd ha (Nat.not_lt_zero a)⟩ ?_
  · refine ⟨fun a c j ha hc hj => (e.2.2 a ha).1 c j hc hj, fun j hj => ?_, fun a ha => (e.2.2 a ha).2, ?_⟩
    · show sp_64 (lq_it n (sp_15_20 n) (sp_62 (sp_37 f (f (0, 0, 0) 4)) 6 0)) 6 0 j = false
      rw [sn_64 (e.2.1 6 hn), h_62 _ _ _ _ _ hj, if_pos ⟨rfl, rfl⟩]
    · show (lq_it n (sp_15_20 n) (sp_62 (sp_37 f (f (0, 0, 0) 4)) 6 0)) (2, 0, 0) 4 = _
      rw [e.1 (2, 0, 0) 4 rfl, kp_sp_62 _ 6 0 (2, 0, 0) 4 rfl]
      exact up_eq _ _ _ _
  · intro i s hi hs
    obtain ⟨hk, hU, hA⟩ := hs
    have kk := kn_45 n s i
    unfold sp_15_20
    refine ⟨kp_tr hk rfl (kp_sp_45 n s i), fun q hq t c j => ?_, fun a ha => ?_⟩
    · rw [kk t q c j (by omega)]
      exact hU q (by omega) t c j
    · rcases Classical.em (a = i) with z | z
      · subst z
        have t := t_45 n s a
        rw [hk (7, a, 0) 3 rfl, k0 (7, a, 0) 3 rfl] at t
        exact ⟨fun c j hc hj => z_45 s a hc hj, t⟩
      · have u := hA a (by omega)
        have us : sn a s (sp_45 n s i) := fun t c j => kk t a c j z
        refine ⟨fun c j hc hj => ?_, ?_, ?_⟩
        · rw [sn_64 us]
          exact u.1 c j hc hj
        · rw [us 7 0 10]
          exact u.2.1
        · rw [us 7 0 11]
          exact u.2.2
set_option maxRecDepth 4000 in
theorem rnd_255 {ρ : Nat} (h : ρ < 2 ^ 31) : nI ρ &&& (255 : Int32) = nI (ρ % 256) := by
  apply bt_ext
  intro i hi
  rw [bt_and, bt_255 i hi]
  show ((BitVec.ofNat 32 ρ).getLsbD i && decide (i < 8)) = (BitVec.ofNat 32 (ρ % 256)).getLsbD i
  rw [BitVec.getLsbD_ofNat, BitVec.getLsbD_ofNat, show (256 : Nat) = 2 ^ 8 from rfl, Nat.testBit_mod_two_pow, decide_eq_true hi]
  cases decide (i < 8) <;> simp
set_option maxRecDepth 4000 in
theorem rnd_rem {ρ : Nat} (h : ρ < 2 ^ 31) : nI ρ - nI ρ / (256 : Int32) * (256 : Int32) = nI (ρ % 256) := by
  have hd : nI ρ / (256 : Int32) = nI (ρ / 256) := by
    apply Int32.toInt_inj.mp
    rw [Int32.toInt_div, nI_toInt h, nI_toInt (show ρ / 256 < 2 ^ 31 by omega), show (256 : Int32).toInt = 256 from rfl, Int.tdiv_eq_ediv_of_nonneg (by omega), Int.bmod_eq_of_le (by omega) (by omega)]
    omega
  rw [hd, show nI (ρ / 256) * (256 : Int32) = nI (ρ / 256 * 256) from nx_mul (y := (256 : Int32)) (b := 256) rfl rfl]
  have e : nI ρ = nI (ρ % 256) + nI (ρ / 256 * 256) := by rw [nI_add, show ρ % 256 + ρ / 256 * 256 = ρ by omega]
  rw [e, Int32.add_sub_cancel]
/-- a node of the class against a node of the reference -/
def NR (n a : Nat) (f g : FI) : Prop := SY n a f g ∧ f (7, a, 0) 3 = g (21, 11, 0) a ∧ (g (21, 11, 0) a = 0 ∨ g (21, 11, 0) a = 1) ∧ f (7, a, 0) 10 = g (21, 18, 0) a ∧ f (7, a, 0) 11 = g (21, 19, 0) a ∧ (¬ f (7, a, 0) 11 = 0 → f (7, a, 0) 12 = g (21, 20, 0) a) ∧ (¬ f (7, a, 0) 10 = 0 → ∀ o, o < n → rl f g 16 1 a o (6 * a + o)) ∧ (¬ g (21, 11, 0) a = 0 → g (21, 18, 0) a = 0 ∧ g (21, 19, 0) a = 0)
def Rel (n K : Nat) (f : FI) (fl : FL) (g : FI) (gl : FL) (ρ : Nat) : Prop := GN f fl g ∧ (f (1, 0, 0) 0 = nI K ∧ g (20, 0, 0) 2 = nI K) ∧ RD n f g ∧ ((∀ p, p < n → f (3, 0, 0) p = g (21, 9, 0) p) ∧ (∀ p, p < n → fl (4, 0, 0) p = gl (21, 10, 0) p) ∧ f (2, 0, 0) 3 = g (20, 0, 0) 23 ∧ (∀ p, p ≤ n → f (5, 0, 0) p = g (21, 24, 0) p)) ∧ (f (0, 0, 0) 4 = nI ρ ∧ g (20, 0, 0) 3 = nI ρ) ∧ (f (0, 0, 0) 5 = g (20, 0, 0) 21 ∧ f (0, 0, 0) 6 = g (20, 0, 0) 22) ∧ ∀ a, a < n → NR n a f g
set_option maxRecDepth 4000 in
theorem SY_kk {n a : Nat} {f f' g g' : FI} {L M : List Nat} (h : SY n a f g) (k1 : kp L f f') (e1 : L.contains 800 = false) (k2 : kp M g g') (e2 : (M.contains 2112 || M.contains 2113 || M.contains 2114 || M.contains 2115) = false) : SY n a f' g' := by
  simp only [Bool.or_eq_false_iff] at e2
  obtain ⟨s0, s1, s2, s3, s4, s5, s6⟩ := h
  unfold SY
  rw [k1 (8, a, 0) 0 e1, k1 (8, a, 0) 1 e1, k1 (8, a, 0) 2 e1, k1 (8, a, 0) 3 e1, k2 (21, 12, 0) a e2.1.1.1, k2 (21, 13, 0) a e2.1.1.2]
  refine ⟨s0, s1, fun j hj => ?_, s3, fun j b hj hb => ?_, fun j b hj h4 hb => ?_, s6⟩
  · rw [k2 (21, 14, 0) _ e2.1.2]
    exact s2 j hj
  · rw [k2 (21, 15, 0) _ e2.2]
    exact s4 j b hj hb
  · rw [k2 (21, 15, 0) _ e2.2]
    exact s5 j b hj h4 hb
set_option maxRecDepth 4000 in
theorem rd_all {n K ρ i : Nat} {f g : FI} {fl gl : FL} (hn : n ≤ 6) (hK : 0 < K) (hK8 : K < 16) (hρ : ρ < 2 ^ 30) (h : Rel n K f fl g gl ρ) : Rel n K (sp_14 n f fl) fl (sp_70_21 n i (g, gl)).1 (sp_70_21 n i (g, gl)).2 (ρ + 1) ∧ KL gl (sp_70_21 n i (g, gl)).2 := by
  obtain ⟨hG, ⟨hK1, hK2⟩, hD, ⟨q1, q2, q3, q4⟩, ⟨hr1, hr2⟩, ⟨hp5, hp6⟩, hN⟩ := h
  have hr : ρ % 256 < 256 := Nat.mod_lt _ (by omega)
  have k1 := kp_sp_15 n f
  obtain ⟨b1, b2, b3, b4⟩ := beg_15 (f := f) hn
  rw [hr1, rnd_255 (by omega)] at b4
  -- values
  have hS1 : RS n (sp_15 n f) fl g gl (ρ % 256) := ⟨fun p hp => (k1 (3, 0, 0) p rfl).trans (q1 p hp), q2, b4, by rw [hr2]; exact rnd_rem (by omega), (k1 (2, 0, 0) 3 rfl).trans q3, fun p hp => (k1 (5, 0, 0) p rfl).trans (q4 p hp)⟩
  have hD1 : RD n (sp_15 n f) g := fun p hp => (k1 (7, p, 0) 2 rfl).trans (hD p hp)
  obtain ⟨hS2, hL2, hV⟩ := val_all hn hr hS1 hD1 (fun k i hk hi => b1 k 0 i hk (by omega) (by omega))
  have k2 := kp_sp_16 n (sp_15 n f) fl
  have c2 := kc_16 hn (sp_15 n f) fl
  have m2 := kp_sp_71 n g gl
  unfold sp_14 sp_70_21
  dsimp only
  generalize sp_15 n f = f1 at *
  generalize sp_16 n f1 fl = f2 at *
  generalize sp_71 n g gl = G2 at *
  -- relays
  have hO2 : ∀ p, p < n → f2 (7, p, 0) 3 = G2.1 (21, 11, 0) p := fun p hp => by
    rw [k2 (7, p, 0) 3 rfl, k1 (7, p, 0) 3 rfl, m2 (21, 11, 0) p rfl]
    exact (hN p hp).2.1
  have hW := rel_all hn hr hS2 hO2 hV (fun k p o hk hp ho => by
    rw [kc_64 c2 (decide_eq_false (by omega))]
    exact b1 k (6 + o) p hk (by omega) (by omega))
  have k3 := kp_sp_17 n f2 fl
  have c3 := kc_17 n f2 fl
  have m3 := kp_sp_80 n G2.1 G2.2
  generalize sp_17 n f2 fl = f3 at *
  generalize sp_80 n G2.1 G2.2 = G3 at *
  obtain ⟨hS3, hL3, hO3, hV3, hW3, -, hd3⟩ := hW
  -- each node by itself
  have kf3 : kp [203, 204, 205, 206, 207, 208, 209, 210, 500, 710, 711, 900, 1000] f f3 := kp_tr (kp_tr (kp_sub k1 rfl) rfl k2) rfl k3
  have mg3 : kp [2023, 2025, 2124, 2127, 2128, 2129, 2130] g G3.1 := kp_tr (kp_sub m2 rfl) rfl m3
  have hY3 : ∀ a, a < n → SY n a f3 G3.1 := fun a ha => SY_kk (hN a ha).1 kf3 rfl mg3 rfl
  have hG3 : GN f3 fl G3.1 := by
    unfold GN
    rw [kf3 (1, 0, 0) 1 rfl, mg3 (20, 0, 0) 4 rfl, mg3 (20, 0, 0) 5 rfl, mg3 (20, 0, 0) 6 rfl, mg3 (20, 0, 0) 7 rfl]
    exact hG
  have hR3 : ∀ a, a < n → AR n a 0 f3 G3.1 := fun a ha => ⟨fun o ho hne => hV3 a o ha ho hne, fun p o hp ho _ _ => hW3 a p o ha hp ho, fun o ho _ => hd3 a o ha ho, (hY3 a ha).2.2.1, (hY3 a ha).2.2.2.1, by rw [kf3 (7, a, 0) 2 rfl, mg3 (21, 8, 0) a rfl]; exact hD a ha, fun o _ ho => absurd ho (Nat.not_lt_zero o)⟩
  have hP := mid_all hn hG3 ((kf3 (1, 0, 0) 0 rfl).trans hK1) ((mg3 (20, 0, 0) 2 rfl).trans hK2) hK hK8 hO3 hY3 hR3 (fun a i ha hi => by
    rw [kc_64 c3 (decide_eq_false (by omega)), kc_64 c2 (decide_eq_false (by omega))]
    exact b1 a 1 i ha (by omega) (by omega)) (fun a ha => by
    rw [k3 (7, a, 0) 11 rfl, k2 (7, a, 0) 11 rfl]
    exact (b3 a ha).2)
  have k4 : kp [711, 712, 800, 900, 1000, 1300] f3 (lq_it n (sp_14_14 n fl) f3) := kp_it (p := fun (s : FI) => s) (kp_re _ _) (fun i s => kp_sp_14_14 n fl i s)
  have c4 := kc_14 hn f3 fl
  have m4 : kp [2036, 2039, 2112, 2113, 2114, 2115, 2116, 2117, 2118, 2119, 2120, 2137, 2138] G3.1 (lq_it n (sp_70_84 n) (lq_it n (sp_70_47 n) (sp_82 n G3.1))) := kp_it (p := fun (s : FI) => s) (kp_it (p := fun (s : FI) => s) (kp_sub (kp_sp_82 n G3.1) rfl) (fun i s => kp_sub (kp_sp_70_47 n i s) rfl)) (fun i s => kp_sub (kp_sp_70_84 n i s) rfl)
  generalize lq_it n (sp_14_14 n fl) f3 = f4 at *
  generalize lq_it n (sp_70_84 n) (lq_it n (sp_70_47 n) (sp_82 n G3.1)) = G4 at *
  -- commands
  have hS4 : RS n f4 fl G4 G3.2 (ρ % 256) := RS_kg (RS_kf hS3 k4 rfl) m4 rfl
  have hC := cmd_all hn hr hS4 (fun p hp => ⟨(hP p hp).1.2.1, (hP p hp).1.2.2.1⟩) (fun j hj => by
    rw [kc_64 c4 (decide_eq_false (by omega)), kc_64 c3 (decide_eq_false (by omega)), kc_64 c2 (decide_eq_false (by omega))]
    exact b2 j hj) (by
    rw [k4 (0, 0, 0) 6 rfl, kf3 (0, 0, 0) 6 rfl, m4 (20, 0, 0) 22 rfl, mg3 (20, 0, 0) 22 rfl]
    exact hp6)
  have k5 : kp [203, 205, 206, 207, 208, 209, 210, 500, 900, 1000] f4 (sp_20 n f4 fl) := kp_sp_20 n f4 fl
  have k6 : kp [5, 6] (sp_20 n f4 fl) (sp_22 n (sp_20 n f4 fl)) := kp_sp_22 n _
  have c6 : kc (fun i c => decide (i = 6 ∧ c = 0)) f4 (sp_22 n (sp_20 n f4 fl)) := kc_tr (kc_20 n f4 fl) (kc_kp k6 rfl rfl)
  have kf6 : kp [5, 6, 203, 205, 206, 207, 208, 209, 210, 500, 900, 1000] f4 (sp_22 n (sp_20 n f4 fl)) := kp_tr (kp_sub k5 rfl) rfl k6
  have m5 := kp_sp_91 n G4 G3.2
  generalize sp_22 n (sp_20 n f4 fl) = f6 at *
  generalize sp_91 n G4 G3.2 = G5 at *
  obtain ⟨hS6, hL6, h5, h6⟩ := hC
  -- states
  have hO6 : ∀ p, p < n → f6 (7, p, 0) 3 = G5.1 (21, 11, 0) p := fun p hp => by
    rw [kf6 (7, p, 0) 3 rfl, k4 (7, p, 0) 3 rfl, m5 (21, 11, 0) p rfl, m4 (21, 11, 0) p rfl]
    exact hO3 p hp
  have hY6 : ∀ a, a < n → SY n a f6 G5.1 := fun a ha => SY_kk (hP a ha).1.1 kf6 rfl m5 rfl
  have hT := sta_all hn hr hS6 hO6 hY6 (fun k p o hk hp ho => by
    rw [kc_64 c6 (decide_eq_false (by omega)), kc_64 c4 (decide_eq_false (by omega)), kc_64 c3 (decide_eq_false (by omega)), kc_64 c2 (decide_eq_false (by omega))]
    exact b1 k (2 + o) p hk (by omega) (by omega))
  have k7 := kp_sp_23 n f6 fl
  have c7 := kc_23 n f6 fl
  have m7 : kp [2023, 2025, 2124, 2133, 2134, 2135] G5.1 (lq_it n (sp_92_70 n) ((lq_it 144 sp_92_48 (lq_it 4 (sp_92_2 n) G5.1)), G5.2)).1 := kp_it (p := fun (s : FI × FL) => s.1) (kp_it (p := fun (s : FI) => s) (kp_it (p := fun (s : FI) => s) (kp_re _ _) (fun i s => kp_sub (kp_sp_92_2 n i s) rfl)) (fun i s => kp_sub (kp_sp_92_48 i s) rfl)) (fun i s => kp_sub (kp_sp_92_70 n i s) rfl)
  unfold sp_92
  dsimp only
  generalize sp_23 n f6 fl = f7 at *
  generalize lq_it n (sp_92_70 n) ((lq_it 144 sp_92_48 (lq_it 4 (sp_92_2 n) G5.1)), G5.2) = G7 at *
  obtain ⟨hS7, hL7, hO7, h33, h34, -, hd7⟩ := hT
  have hA := ad_all (f := f7) (g := G7.1) hn (fun a ha => ⟨SY_kk (hY6 a ha) k7 rfl m7 rfl, hO7 a ha, by rw [m7 (21, 11, 0) a rfl, m5 (21, 11, 0) a rfl, m4 (21, 11, 0) a rfl, mg3 (21, 11, 0) a rfl]; exact (hN a ha).2.2.1, fun o ho => h33 a o ha ho, fun p o hp ho _ => h34 a p o ha hp ho, fun o ho => hd7 a o ha ho⟩)
  have k8 : kp [703, 800, 900, 1000] f7 (lq_it n (sp_14_68 n) f7) := kp_it (p := fun (s : FI) => s) (kp_re _ _) (fun i s => kp_sp_14_68 n i s)
  have c8 := kc_68 n f7
  have m8 : kp [2036, 2039, 2111, 2112, 2113, 2114, 2115, 2137, 2138] G7.1 (lq_it n (sp_92_114 n) G7.1) := kp_it (p := fun (s : FI) => s) (kp_re _ _) (fun i s => kp_sp_92_114 n i s)
  generalize lq_it n (sp_14_68 n) f7 = f8 at *
  generalize lq_it n (sp_92_114 n) G7.1 = G8 at *
  -- all together
  have kf48 : kp [5, 6, 203, 205, 206, 207, 208, 209, 210, 500, 703, 800, 900, 1000] f4 f8 := kp_tr (kp_tr (kp_sub kf6 rfl) rfl k7) rfl k8
  have kf38 : kp [5, 6, 203, 204, 205, 206, 207, 208, 209, 210, 500, 703, 711, 712, 800, 900, 1000, 1300] f3 f8 := kp_tr (kp_sub k4 rfl) rfl kf48
  have kf08 : kp [5, 6, 203, 204, 205, 206, 207, 208, 209, 210, 500, 703, 710, 711, 712, 800, 900, 1000, 1300] f f8 := kp_tr (kp_sub kf3 rfl) rfl kf38
  have mg48 : kp [2021, 2022, 2023, 2025, 2036, 2039, 2111, 2112, 2113, 2114, 2115, 2124, 2133, 2134, 2135, 2137, 2138] G4 G8 := kp_tr (kp_tr (kp_sub m5 rfl) rfl m7) rfl m8
  have mg08 : kp [2021, 2022, 2023, 2025, 2036, 2039, 2111, 2112, 2113, 2114, 2115, 2116, 2117, 2118, 2119, 2120, 2124, 2127, 2128, 2129, 2130, 2133, 2134, 2135, 2137, 2138] g G8 := kp_tr (kp_tr (kp_sub mg3 rfl) rfl m4) rfl mg48
  have hS8 : RS n f8 fl G8 G7.2 (ρ % 256) := RS_kg (RS_kf hS7 k8 rfl) m8 rfl
  have kz : kp [4] f8 (xm_up f8 (0, 0, 0) 4 (f8 (0, 0, 0) 4 + (1 : Int32))) := kp_up (kp_re _ _) rfl
  have mz : kp [2003] G8 (xm_up G8 (20, 0, 0) 3 (G8 (20, 0, 0) 3 + (1 : Int32))) := kp_up (kp_re _ _) rfl
  have hL : KL gl G7.2 := KL_tr (KL_tr (KL_tr hL2 hL3) hL6) hL7
  refine ⟨⟨?_, ⟨?_, ?_⟩, fun p hp => ?_, ⟨fun p hp => ?_, fun p hp => ?_, ?_, fun p hp => ?_⟩, ⟨?_, ?_⟩, ⟨?_, ?_⟩, fun a ha => ?_⟩, hL⟩
  · unfold GN
    rw [kz (1, 0, 0) 1 rfl, kf08 (1, 0, 0) 1 rfl, mz (20, 0, 0) 4 rfl, mz (20, 0, 0) 5 rfl, mz (20, 0, 0) 6 rfl, mz (20, 0, 0) 7 rfl, mg08 (20, 0, 0) 4 rfl, mg08 (20, 0, 0) 5 rfl, mg08 (20, 0, 0) 6 rfl, mg08 (20, 0, 0) 7 rfl]
    exact hG
  · rw [kz (1, 0, 0) 0 rfl, kf08 (1, 0, 0) 0 rfl]
    exact hK1
  · rw [mz (20, 0, 0) 2 rfl, mg08 (20, 0, 0) 2 rfl]
    exact hK2
  · rw [kz (7, p, 0) 2 rfl, kf08 (7, p, 0) 2 rfl, mz (21, 8, 0) p rfl, mg08 (21, 8, 0) p rfl]
    exact hD p hp
  · rw [kz (3, 0, 0) p rfl, mz (21, 9, 0) p rfl]
    exact hS8.1 p hp
  · exact hS8.2.1 p hp
  · rw [kz (2, 0, 0) 3 rfl, mz (20, 0, 0) 23 rfl]
    exact hS8.2.2.2.2.1
  · rw [kz (5, 0, 0) p rfl, mz (21, 24, 0) p rfl]
    exact hS8.2.2.2.2.2 p hp
  · rw [up_eq, kf08 (0, 0, 0) 4 rfl, hr1]
    exact nI_1 ρ
  · rw [up_eq, mg08 (20, 0, 0) 3 rfl, hr2]
    exact nI_1 ρ
  · rw [kz (0, 0, 0) 5 rfl, mz (20, 0, 0) 21 rfl, k8 (0, 0, 0) 5 rfl, k7 (0, 0, 0) 5 rfl, m8 (20, 0, 0) 21 rfl, m7 (20, 0, 0) 21 rfl]
    exact h5
  · rw [kz (0, 0, 0) 6 rfl, mz (20, 0, 0) 22 rfl, k8 (0, 0, 0) 6 rfl, k7 (0, 0, 0) 6 rfl, m8 (20, 0, 0) 22 rfl, m7 (20, 0, 0) 22 rfl]
    exact h6
  · obtain ⟨a1, a2, a3, a4⟩ := hA a ha
    obtain ⟨⟨-, p2, p3, p4⟩, p5, p6⟩ := hP a ha
    have e10 : f8 (7, a, 0) 10 = bI (if f (7, a, 0) 3 = 0 then true else false) := by
      rw [kf38 (7, a, 0) 10 rfl, k3 (7, a, 0) 10 rfl, k2 (7, a, 0) 10 rfl]
      exact (b3 a ha).1
    refine ⟨SY_kk a1 kz rfl mz rfl, ?_, ?_, ?_, ?_, ?_, fun y o ho => ?_, fun y => ?_⟩
    · rw [kz (7, a, 0) 3 rfl, mz (21, 11, 0) a rfl]
      exact a2
    · rw [mz (21, 11, 0) a rfl]
      exact a3
    · rw [kz (7, a, 0) 10 rfl, mz (21, 18, 0) a rfl, e10, mg48 (21, 18, 0) a rfl, p5, mg3 (21, 11, 0) a rfl, (hN a ha).2.1]
    · rw [kz (7, a, 0) 11 rfl, mz (21, 19, 0) a rfl, kf48 (7, a, 0) 11 rfl, mg48 (21, 19, 0) a rfl]
      exact p2
    · rw [kz (7, a, 0) 11 rfl, kz (7, a, 0) 12 rfl, mz (21, 20, 0) a rfl, kf48 (7, a, 0) 11 rfl, kf48 (7, a, 0) 12 rfl, mg48 (21, 20, 0) a rfl]
      exact p3
    · rw [kz (7, a, 0) 10 rfl, e10] at y
      have hl : f4 (7, a, 0) 3 = 0 := by
        rw [k4 (7, a, 0) 3 rfl, kf3 (7, a, 0) 3 rfl]
        rcases Classical.em (f (7, a, 0) 3 = 0) with z | z
        · exact z
        · rw [if_neg z] at y
          exact absurd rfl y
      have c0 : kc (fun i c => decide ((i = 6 ∧ c = 0) ∨ (2 ≤ c ∧ c < 6))) f4 f8 := kc_tr (kc_tr (kc_sub c6 (fun i c hc => decide_eq_false (fun z => (of_decide_eq_false hc) (Or.inl z)))) (kc_sub c7 (fun i c hc => decide_eq_false (fun z => (of_decide_eq_false hc) (Or.inr z))))) (kc_sub c8 (fun i c hc => decide_eq_false (fun z => (of_decide_eq_false hc) (Or.inr z))))
      exact rl_mv (p4 hl o ho) ((h_kp kz rfl _ _ _).trans (kc_64 c0 (decide_eq_false (by omega)) o)) ((kz (10, a, 1) o rfl).trans (c0 a 1 o (decide_eq_false (by omega))).2) ((mz (21, 16, 0) _ rfl).trans (mg48 (21, 16, 0) _ rfl)) ((mz (21, 17, 0) _ rfl).trans (mg48 (21, 17, 0) _ rfl))
    · rw [mz (21, 11, 0) a rfl] at y
      have y2 := a4 y
      rw [m7 (21, 11, 0) a rfl, m5 (21, 11, 0) a rfl, m4 (21, 11, 0) a rfl] at y2
      rw [mz (21, 18, 0) a rfl, mz (21, 19, 0) a rfl, mg48 (21, 18, 0) a rfl, mg48 (21, 19, 0) a rfl, p5, if_neg y2]
      exact ⟨rfl, p6 y2⟩
