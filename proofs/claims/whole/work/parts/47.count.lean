/-! Counting, and who wins. -/
def ct (N : Nat) (P : Nat → Bool) : Nat := lq_it N (fun i s => if P i = true then s + 1 else s) 0
set_option maxRecDepth 4000 in
theorem ct_s (N : Nat) (P : Nat → Bool) : ct (N + 1) P = ct N P + (if P N = true then 1 else 0) := by
  show (if P N = true then ct N P + 1 else ct N P) = _
  split <;> rfl
set_option maxRecDepth 4000 in
theorem ct_0 (P : Nat → Bool) : ct 0 P = 0 := rfl
set_option maxRecDepth 4000 in
theorem ct_ext {N : Nat} {P Q : Nat → Bool} (h : ∀ i, i < N → P i = Q i) : ct N P = ct N Q := by
  induction N with
  | zero => rfl
  | succ N ih => rw [ct_s, ct_s, ih (fun i hi => h i (by omega)), h N (by omega)]
set_option maxRecDepth 4000 in
theorem ct_le {N : Nat} {P Q : Nat → Bool} (h : ∀ i, i < N → P i = true → Q i = true) : ct N P ≤ ct N Q := by
  induction N with
  | zero => exact Nat.le_refl _
  | succ N ih =>
    rw [ct_s, ct_s]
    have a := ih (fun i hi => h i (by omega))
    rcases Bool.eq_false_or_eq_true (P N) with e | e
    · rw [if_pos e, if_pos (h N (by omega) e)]
      omega
    · rw [e]
      simp only [Bool.false_eq_true, if_false]
      omega
set_option maxRecDepth 4000 in
theorem ct_pos {N : Nat} {P : Nat → Bool} (h : 0 < ct N P) : ∃ i, i < N ∧ P i = true := by
  induction N with
  | zero => exact absurd h (by rw [ct_0]; omega)
  | succ N ih =>
    rw [ct_s] at h
    rcases Bool.eq_false_or_eq_true (P N) with e | e
    · exact ⟨N, by omega, e⟩
    · rw [e] at h
      simp only [Bool.false_eq_true, if_false] at h
      obtain ⟨i, hi, hp⟩ := ih h
      exact ⟨i, by omega, hp⟩
set_option maxRecDepth 4000 in
theorem ct_none {N : Nat} {P : Nat → Bool} (h : ct N P = 0) : ∀ i, i < N → P i = false := by
  induction N with
  | zero => intro i hi; omega
  | succ N ih =>
    rw [ct_s] at h
    intro i hi
    rcases Bool.eq_false_or_eq_true (P N) with e | e
    · rw [if_pos e] at h
      omega
    · rw [e] at h
      simp only [Bool.false_eq_true, if_false] at h
      rcases Classical.em (i = N) with e2 | e2
      · rw [e2, e]
      · exact ih h i (by omega)
set_option maxRecDepth 4000 in
theorem ct_max (N : Nat) (P : Nat → Bool) : ct N P ≤ N := by
  induction N with
  | zero => exact Nat.le_refl _
  | succ N ih =>
    rw [ct_s]
    split <;> omega
set_option maxRecDepth 4000 in
/-- two that exclude each other -/
theorem ct_two {N : Nat} {P Q R : Nat → Bool} (h : ∀ i, i < N → P i = true → Q i = false) (hp : ∀ i, i < N → P i = true → R i = true) (hq : ∀ i, i < N → Q i = true → R i = true) : ct N P + ct N Q ≤ ct N R := by
  induction N with
  | zero => exact Nat.le_refl _
  | succ N ih =>
    have a := ih (fun i hi => h i (by omega)) (fun i hi => hp i (by omega)) (fun i hi => hq i (by omega))
    rw [ct_s, ct_s, ct_s]
    have h1 := h N (by omega)
    have h2 := hp N (by omega)
    have h3 := hq N (by omega)
    rcases Bool.eq_false_or_eq_true (P N) with e | e
    · rw [e, h1 e, h2 e]
      simp only [Bool.false_eq_true, if_false, if_true]
      omega
    · rcases Bool.eq_false_or_eq_true (Q N) with e2 | e2
      · rw [e, e2, h3 e2]
        simp only [Bool.false_eq_true, if_false, if_true]
        omega
      · rw [e, e2]
        simp only [Bool.false_eq_true, if_false]
        omega
set_option maxRecDepth 4000 in
/-- one place taken out -/
theorem ct_out {N a : Nat} {P : Nat → Bool} (ha : a < N) : ct N P = (if P a = true then 1 else 0) + ct N (fun j => !decide (j = a) && P j) := by
  induction N with
  | zero => omega
  | succ N ih =>
    rw [ct_s, ct_s]
    rcases Classical.em (a = N) with e | e
    · subst e
      rw [ct_ext (P := P) (Q := fun j => !decide (j = a) && P j) (fun i hi => by rw [decide_eq_false (show ¬ i = a by omega)]; rfl), decide_eq_true rfl]
      simp only [Bool.not_true, Bool.false_and, Bool.false_eq_true, if_false]
      omega
    · rw [ih (by omega), decide_eq_false (show ¬ N = a by omega)]
      simp only [Bool.not_false, Bool.true_and]
      omega
set_option maxRecDepth 4000 in
theorem ct_tail {N M : Nat} {P : Nat → Bool} (h : N ≤ M) (h0 : ∀ i, N ≤ i → i < M → P i = false) : ct M P = ct N P := by
  induction M with
  | zero => rw [show N = 0 by omega]
  | succ M ih =>
    rcases Classical.em (N = M + 1) with e | e
    · rw [e]
    · rw [ct_s, h0 M (by omega) (by omega), ih (by omega) (fun i h1 h2 => h0 i h1 (by omega))]
      simp only [Bool.false_eq_true, if_false]
      rfl
set_option maxRecDepth 4000 in
theorem it_ct {N : Nat} {P : Nat → Bool} {F : Nat → Nat → Nat} (h : ∀ i s, i < N → F i s = if P i = true then s + 1 else s) : lq_it N F 0 = ct N P := by
  induction N with
  | zero => rfl
  | succ N ih =>
    show F N (lq_it N F 0) = _
    rw [ih (fun i s hi => h i s (by omega)), h N _ (by omega), ct_s]
    split <;> rfl
/-- the ballots: how many there are, and how many say v -/
def bq (g : FI) (v : Int32) (k : Nat) : Bool := !decide (g (21, 37, 0) k = 0) && decide (g (21, 38, 0) k = v)
def BL (g : FI) (w : Nat) (c : Int32 → Nat) : Prop := g (20, 0, 0) 36 = nI w ∧ w < 100 ∧ ∀ v, ct w (bq g v) = c v
set_option maxRecDepth 4000 in
theorem BL_0 (g : FI) : BL (xm_up g (20, 0, 0) 36 (0 : Int32)) 0 (fun _ => 0) := ⟨up_eq _ _ _ _, by omega, fun _ => rfl⟩
set_option maxRecDepth 4000 in
theorem BL_84 {g : FI} {w : Nat} {c : Int32 → Nat} (h : BL g w c) (hw : w < 99) (b x : Int32) : BL (sp_84 g b x w) (w + 1) (fun v => c v + (if (!decide (b = 0) && decide (x = v)) = true then 1 else 0)) := by
  refine ⟨up_eq _ _ _ _, by omega, fun v => ?_⟩
  show _ = c v + (if (!decide (b = 0) && decide (x = v)) = true then 1 else 0)
  rw [ct_s, ← h.2.2 v]
  have e1 : ct w (bq (sp_84 g b x w) v) = ct w (bq g v) := ct_ext (fun i hi => by
    unfold bq sp_84
    rw [up_ne _ _ (by simp), up_ne _ _ (by simp), up_ne _ _ (by simp; omega), up_ne _ _ (by simp), up_ne _ _ (by simp; omega), up_ne _ _ (by simp)])
  have e2 : bq (sp_84 g b x w) v w = (!decide (b = 0) && decide (x = v)) := by
    unfold bq sp_84
    rw [up_ne _ _ (by simp), up_ne _ _ (by simp), up_eq, up_ne _ _ (by simp), up_eq]
  rw [e1, e2]
set_option maxRecDepth 4000 in
theorem BL_c {g : FI} {w : Nat} {c c' : Int32 → Nat} (h : BL g w c) (e : ∀ v, c v = c' v) : BL g w c' := ⟨h.1, h.2.1, fun v => (h.2.2 v).trans (e v)⟩
set_option maxRecDepth 4000 in
theorem BL_kp {g g' : FI} {w : Nat} {c : Int32 → Nat} (h : BL g w c) {L : List Nat} (k : kp L g g') (e1 : L.contains 2036 = false) (e2 : L.contains 2137 = false) (e3 : L.contains 2138 = false) : BL g' w c := by
  refine ⟨(k (20, 0, 0) 36 e1).trans h.1, h.2.1, fun v => ?_⟩
  rw [← h.2.2 v]
  exact ct_ext (fun i hi => by unfold bq; rw [k (21, 37, 0) i e2, k (21, 38, 0) i e3])
set_option maxRecDepth 4000 in
/-- who wins among the ballots -/
theorem w_85 {g : FI} {w X : Nat} {c : Int32 → Nat} (h : BL g w c) (hX : X < 100) : ((sp_85 g (nI X) w).1 = true → X < 2 * c ((sp_85 g (nI X) w).2 (20, 0, 0) 39)) ∧ (∀ v, X < 2 * c v → (sp_85 g (nI X) w).1 = true) := by
  have e := inv_it (N := w) (F := sp_85_4 (nI X) w) (s0 := (false, g)) (R := fun i (s : Bool × FI) => kp [2039] g s.2 ∧ (s.1 = true → X < 2 * c (s.2 (20, 0, 0) 39)) ∧ (∀ k, k < i → bq g (g (21, 38, 0) k) k = true → X < 2 * c (g (21, 38, 0) k) → s.1 = true)) ⟨kp_re _ _, fun z => (by cases z), fun k hk => absurd hk (by omega)⟩ ?_
  · refine ⟨e.2.1, fun v hv => ?_⟩
    have h1 : 0 < ct w (bq g v) := by rw [h.2.2 v]; omega
    obtain ⟨i, hi, hb⟩ := ct_pos h1
    have hv2 : g (21, 38, 0) i = v := by
      unfold bq at hb
      rw [Bool.and_eq_true, decide_eq_true_eq] at hb
      exact hb.2
    exact e.2.2 i hi (by rw [hv2]; exact hb) (by rw [hv2]; exact hv)
  · intro i s hi hs
    obtain ⟨hk, h1, h2⟩ := hs
    have e37 : ∀ j, s.2 (21, 37, 0) j = g (21, 37, 0) j := fun j => hk (21, 37, 0) j rfl
    have e38 : ∀ j, s.2 (21, 38, 0) j = g (21, 38, 0) j := fun j => hk (21, 38, 0) j rfl
    have hc : lq_it w (sp_85_18 i s) 0 = if g (21, 37, 0) i = 0 then 0 else c (g (21, 38, 0) i) := by
      rcases Classical.em (g (21, 37, 0) i = 0) with h0 | h0
      · rw [if_pos h0, it_ct (P := fun _ => false) (fun j t hj => by unfold sp_85_18; rw [e37 i, if_pos h0]; rfl)]
        have : ∀ m, ct m (fun _ => false) = 0 := fun m => by
          induction m with
          | zero => rfl
          | succ m ih => rw [ct_s, ih]; rfl
        exact this w
      · rw [if_neg h0, ← h.2.2]
        refine it_ct (fun j t hj => ?_)
        unfold sp_85_18 bq
        rw [e37 i, e37 j, e38 i, e38 j, if_neg h0]
        rcases Classical.em (g (21, 37, 0) j = 0) with h3 | h3
        · rw [if_pos h3, decide_eq_true h3]
          rfl
        · rw [if_neg h3, decide_eq_false h3]
          rcases Classical.em (g (21, 38, 0) i = g (21, 38, 0) j) with h4 | h4
          · rw [if_pos h4, decide_eq_true h4.symm]
            rfl
          · rw [if_neg h4, decide_eq_false (fun z => h4 z.symm)]
            rfl
    have hcw : c (g (21, 38, 0) i) ≤ w := by
      rw [← h.2.2]
      exact ct_max _ _
    have hw := h.2.1
    unfold sp_85_4
    rw [hc]
    rcases Classical.em (g (21, 37, 0) i = 0) with h0 | h0
    · rw [if_pos h0, if_pos (nI_le (by omega) (by omega))]
      refine ⟨hk, h1, fun k hk2 hb hx => ?_⟩
      rcases Classical.em (k = i) with e | e
      · subst e
        unfold bq at hb
        rw [h0] at hb
        simp at hb
      · exact h2 k (by omega) hb hx
    · rw [if_neg h0]
      rcases Nat.lt_or_ge X (2 * c (g (21, 38, 0) i)) with h5 | h5
      · rw [if_neg (nI_ge h5 (by omega))]
        refine ⟨kp_up hk rfl, fun _ => ?_, fun _ _ _ _ => rfl⟩
        show X < 2 * c (xm_up s.2 (20, 0, 0) 39 (s.2 (21, 38, 0) i) (20, 0, 0) 39)
        rw [up_eq, e38]
        exact h5
      · rw [if_pos (nI_le h5 (by omega))]
        refine ⟨hk, h1, fun k hk2 hb hx => ?_⟩
        rcases Classical.em (k = i) with e | e
        · subst e
          omega
        · exact h2 k (by omega) hb hx
/-- who wins in contents of the class -/
def cq (f : FI) (i k : Nat) (v x : Int32) (j : Nat) : Bool := bt ((f (9, i, k) 1) &&& v) j && decide (f (10, i, k) j = x)
set_option maxRecDepth 4000 in
theorem c_67 {n : Nat} (hn : n ≤ 6) (f : FI) (i k : Nat) (x v : Int32) : sp_67 n f i k x ((f (9, i, k) 1) &&& v) = ct n (cq f i k v x) := by
  refine it_ct (fun j s hj => ?_)
  unfold sp_67_5 cq
  rcases Bool.eq_false_or_eq_true (bt ((f (9, i, k) 1) &&& v) j) with h | h
  · rw [if_neg (fun z => by rw [(bt_test _ (by omega)).mp z] at h; cases h), h]
    rcases Classical.em (f (10, i, k) j = x) with h2 | h2
    · rw [if_pos h2, decide_eq_true h2]
      rfl
    · rw [if_neg h2, decide_eq_false h2]
      rfl
  · rw [if_pos ((bt_test _ (by omega)).mpr h), h]
    rfl
set_option maxRecDepth 4000 in
theorem w_66 {n X : Nat} {f : FI} {i k : Nat} {v : Int32} (hn : n ≤ 6) (hv : sp_144 v = nI X) (hX : X < 100) : (sp_66 n f i k v = (-1 : Int32) ∧ ∀ x, ¬ X < 2 * ct n (cq f i k v x)) ∨ (∃ j, j < n ∧ sp_66 n f i k v = nI j ∧ X < 2 * ct n (cq f i k v (f (10, i, k) j))) := by
  have key : ∀ m q, q + m = n → (∀ j, j < q → bt ((f (9, i, k) 1) &&& v) j = true → ¬ X < 2 * ct n (cq f i k v (f (10, i, k) j))) → (sp_66_9 n f i k v m q = (-1 : Int32) ∧ ∀ j, j < n → bt ((f (9, i, k) 1) &&& v) j = true → ¬ X < 2 * ct n (cq f i k v (f (10, i, k) j))) ∨ (∃ j, j < n ∧ sp_66_9 n f i k v m q = nI j ∧ X < 2 * ct n (cq f i k v (f (10, i, k) j))) := by
    intro m
    induction m with
    | zero =>
      intro q hq h
      exact Or.inl ⟨rfl, fun j hj => h j (by omega)⟩
    | succ m ih =>
      intro q hq h
      have hc := ct_max n (cq f i k v (f (10, i, k) q))
      unfold sp_66_9
      rcases Bool.eq_false_or_eq_true (bt ((f (9, i, k) 1) &&& v) q) with hb | hb
      · rw [if_neg (fun z => by rw [(bt_test _ (by omega)).mp z] at hb; cases hb), hv, c_67 hn, show (2 : Int32) * nI (ct n (cq f i k v (f (10, i, k) q))) = nI (2 * ct n (cq f i k v (f (10, i, k) q))) from nx_mul (x := (2 : Int32)) (a := 2) rfl rfl]
        rcases Nat.lt_or_ge X (2 * ct n (cq f i k v (f (10, i, k) q))) with h5 | h5
        · rw [if_neg (nI_ge h5 (by omega))]
          exact Or.inr ⟨q, by omega, rfl, h5⟩
        · rw [if_pos (nI_le h5 (by omega))]
          refine ih (q + 1) (by omega) (fun j hj hb2 => ?_)
          rcases Classical.em (j = q) with e | e
          · subst e
            omega
          · exact h j (by omega) hb2
      · rw [if_pos ((bt_test _ (by omega)).mpr hb)]
        refine ih (q + 1) (by omega) (fun j hj hb2 => ?_)
        rcases Classical.em (j = q) with e | e
        · subst e
          rw [hb] at hb2
          cases hb2
        · exact h j (by omega) hb2
  rcases key n 0 (by omega) (fun j hj => by omega) with h | h
  · refine Or.inl ⟨h.1, fun x hx => ?_⟩
    have h1 : 0 < ct n (cq f i k v x) := by omega
    obtain ⟨j, hj, hb⟩ := ct_pos h1
    unfold cq at hb
    rw [Bool.and_eq_true, decide_eq_true_eq] at hb
    refine h.2 j hj hb.1 ?_
    rw [hb.2]
    exact hx
  · exact Or.inr h
set_option maxRecDepth 4000 in
/-- both find the same -/
theorem w_eq {n X w : Nat} {f g : FI} {i k : Nat} {v : Int32} {c : Int32 → Nat} (hn : n ≤ 6) (hv : sp_144 v = nI X) (hX : X < 100) (hc : ct n (fun j => bt v j) ≤ X) (h : BL g w c) (e : ∀ x, c x = ct n (cq f i k v x)) :
    (sp_66 n f i k v = (-1 : Int32) ∧ (sp_85 g (nI X) w).1 = false) ∨ (∃ j, j < n ∧ sp_66 n f i k v = nI j ∧ ¬ sp_66 n f i k v = (-1 : Int32) ∧ (sp_85 g (nI X) w).1 = true ∧ (sp_85 g (nI X) w).2 (20, 0, 0) 39 = f (10, i, k) j) := by
  have a := w_85 h hX
  rcases w_66 (f := f) (i := i) (k := k) hn hv hX with b | ⟨j, hj, b1, b2⟩
  · refine Or.inl ⟨b.1, ?_⟩
    rcases Bool.eq_false_or_eq_true ((sp_85 g (nI X) w).1) with h1 | h1
    · exact absurd (a.1 h1) (by rw [e]; exact b.2 _)
    · exact h1
  · have h1 := a.2 (f (10, i, k) j) (by rw [e]; exact b2)
    refine Or.inr ⟨j, hj, b1, ?_, h1, ?_⟩
    · rw [b1]
      exact (by decide +kernel : ∀ j, j < 6 → ¬ nI j = (-1 : Int32)) j (by omega)
    · have h2 := a.1 h1
      rw [e] at h2
      rcases Classical.em ((sp_85 g (nI X) w).2 (20, 0, 0) 39 = f (10, i, k) j) with h3 | h3
      · exact h3
      · have h4 := ct_two (N := n) (P := cq f i k v ((sp_85 g (nI X) w).2 (20, 0, 0) 39)) (Q := cq f i k v (f (10, i, k) j)) (R := fun j => bt v j) (fun q _ hq => by
          unfold cq at hq ⊢
          rw [Bool.and_eq_true, decide_eq_true_eq] at hq
          rw [hq.2, decide_eq_false h3, Bool.and_false]) (fun q _ hq => by
          unfold cq at hq
          rw [bt_and, Bool.and_eq_true, Bool.and_eq_true] at hq
          exact hq.1.2) (fun q _ hq => by
          unfold cq at hq
          rw [bt_and, Bool.and_eq_true, Bool.and_eq_true] at hq
          exact hq.1.2)
        omega
set_option maxRecDepth 4000 in
theorem pc_all : ∀ m, m < 64 → sp_144 (nI m) = nI (ct 6 (fun j => bt (nI m) j)) := by decide +kernel
set_option maxRecDepth 4000 in
theorem low6 {x : Int32} (h : ∀ i, 6 ≤ i → i < 32 → bt x i = false) : ∃ m, m < 64 ∧ x = nI m := by
  refine ⟨x.toBitVec.toNat % 64, Nat.mod_lt _ (by decide), ?_⟩
  apply bt_ext
  intro i hi
  show x.toBitVec.getLsbD i = (BitVec.ofNat 32 (x.toBitVec.toNat % 64)).getLsbD i
  rw [BitVec.getLsbD_ofNat, decide_eq_true hi, Bool.true_and, show (64 : Nat) = 2 ^ 6 from rfl, Nat.testBit_mod_two_pow]
  rcases Nat.lt_or_ge i 6 with h6 | h6
  · rw [decide_eq_true h6, Bool.true_and]
    rfl
  · rw [decide_eq_false (by omega), Bool.false_and]
    exact h i h6 hi
set_option maxRecDepth 4000 in
theorem pc_of {n : Nat} {x : Int32} (hn : n ≤ 6) (h : ∀ i, n ≤ i → i < 32 → bt x i = false) : sp_144 x = nI (ct n (fun j => bt x j)) := by
  obtain ⟨m, hm, e⟩ := low6 (fun i h6 hi => h i (by omega) hi)
  rw [← ct_tail (N := n) (M := 6) hn (fun i h1 h2 => h i h1 (by omega)), e]
  exact pc_all m hm
set_option maxRecDepth 4000 in
theorem pc_1 {n : Nat} (hn : n ≤ 6) : sp_144 (sp_1 (nI n)) = nI n ∧ ct n (fun j => bt (sp_1 (nI n)) j) ≤ n ∧ ∀ j, j < n → bt (sp_1 (nI n)) j = true := by
  refine ⟨(by decide +kernel : ∀ n, n < 7 → sp_144 (sp_1 (nI n)) = nI n) n (by omega), ct_max _ _, fun j hj => ?_⟩
  exact (by decide +kernel : ∀ n, n < 7 → ∀ j, j < n → bt (sp_1 (nI n)) j = true) n (by omega) j hj
