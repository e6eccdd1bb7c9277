/-! Contents: which places are there, and what they hold. -/
theorem rel_it {S T : Type} {R : Nat → S → T → Prop} {N : Nat} {F : Nat → S → S} {G : Nat → T → T} {s0 : S} {t0 : T} (h0 : R 0 s0 t0) (h : ∀ i s t, i < N → R i s t → R (i + 1) (F i s) (G i t)) : R N (lq_it N F s0) (lq_it N G t0) := by
  have key : ∀ m, m ≤ N → R m (lq_it m F s0) (lq_it m G t0) := by
    intro m
    induction m with
    | zero => exact fun _ => h0
    | succ m ih => exact fun hm => h m _ _ (by omega) (ih (by omega))
  exact key N (Nat.le_refl N)
theorem inv_it {S : Type} {R : Nat → S → Prop} {N : Nat} {F : Nat → S → S} {s0 : S} (h0 : R 0 s0) (h : ∀ i s, i < N → R i s → R (i + 1) (F i s)) : R N (lq_it N F s0) := by
  have key : ∀ m, m ≤ N → R m (lq_it m F s0) := by
    intro m
    induction m with
    | zero => exact fun _ => h0
    | succ m ih => exact fun hm => h m _ (by omega) (ih (by omega))
  exact key N (Nat.le_refl N)
theorem bt_1 : ∀ i, i < 32 → bt 1 i = decide (i = 0) := by decide +kernel
/-- a test of one bit -/
theorem bt_test (x : Int32) {p : Nat} (hp : p < 32) : ((x >>> ((nI p) &&& 31)) &&& (1 : Int32)) = 0 ↔ bt x p = false := by
  constructor
  · intro h
    have e : bt ((x >>> ((nI p) &&& 31)) &&& (1 : Int32)) 0 = bt 0 0 := by rw [h]
    rw [bt_and, bt_shr p hp x (by omega), if_pos (by omega), bt_1 0 (by omega)] at e
    simpa [bt] using e
  · intro h
    apply bt_ext
    intro i hi
    rw [bt_and, bt_shr p hp x hi, bt_1 i hi]
    rcases Nat.eq_zero_or_pos i with h0 | h0
    · subst h0
      rw [if_pos (by omega), Nat.add_zero, h]
      simp [bt]
    · rw [decide_eq_false (by omega), Bool.and_false]
      simp [bt]
theorem bt_one (p : Nat) (hp : p < 32) {j : Nat} (hj : j < 32) : bt ((1 : Int32) <<< ((nI p) &&& 31)) j = decide (j = p) := by
  rw [bt_shl p hp 1 hj]
  rcases Nat.lt_or_ge j p with h | h
  · simp [show ¬ p ≤ j by omega, show ¬ j = p by omega]
  · rw [decide_eq_true h, Bool.true_and, bt_1 _ (by omega)]
    exact decide_eq_decide.mpr ⟨fun h => by omega, fun h => by omega⟩
theorem h_64 (f : FI) (i k : Nat) {p : Nat} (hp : p < 32) : sp_64 f i k p = bt (f (9, i, k) 1) p := by
  unfold sp_64
  rcases Bool.eq_false_or_eq_true (bt (f (9, i, k) 1) p) with h | h
  · rw [if_neg (fun z => by rw [(bt_test _ hp).mp z] at h; cases h), h]
  · rw [if_pos ((bt_test _ hp).mpr h), h]
theorem h_63 (f : FI) (i k p : Nat) (x : Int32) (i' k' : Nat) (hp : p < 32) {j : Nat} (hj : j < 32) : sp_64 (sp_63 f i k p x) i' k' j = if i' = i ∧ k' = k ∧ j = p then true else sp_64 f i' k' j := by
  rw [h_64 _ _ _ hj, h_64 _ _ _ hj]
  unfold sp_63
  rcases Classical.em (i' = i ∧ k' = k) with h | h
  · obtain ⟨rfl, rfl⟩ := h
    rw [up_eq, bt_or, bt_one p hp hj]
    rcases Classical.em (j = p) with h2 | h2
    · rw [if_pos ⟨rfl, rfl, h2⟩, decide_eq_true h2, Bool.or_true]
    · rw [if_neg (fun z => h2 z.2.2), decide_eq_false h2, Bool.or_false]
  · rw [up_ne _ _ (by intro z; apply h; simpa using z.1), up_ne _ _ (by simp), if_neg (fun z => h ⟨z.1, z.2.1⟩)]
theorem v_63 (f : FI) (i k p : Nat) (x : Int32) (i' k' j : Nat) : (sp_63 f i k p x) (10, i', k') j = if i' = i ∧ k' = k ∧ j = p then x else f (10, i', k') j := by
  unfold sp_63
  rw [up_ne _ _ (by simp)]
  unfold xm_up
  rcases Classical.em (i' = i ∧ k' = k ∧ j = p) with h | h
  · rw [if_pos h, if_pos (by simp [h])]
  · rw [if_neg h, if_neg (by intro z; apply h; have := z.1; simp at this; exact ⟨this.1, this.2, z.2⟩)]
theorem h_62 (f : FI) (i k i' k' : Nat) {j : Nat} (hj : j < 32) : sp_64 (sp_62 f i k) i' k' j = if i' = i ∧ k' = k then false else sp_64 f i' k' j := by
  rw [h_64 _ _ _ hj, h_64 _ _ _ hj]
  unfold sp_62
  rcases Classical.em (i' = i ∧ k' = k) with h | h
  · obtain ⟨rfl, rfl⟩ := h
    rw [up_eq, if_pos ⟨rfl, rfl⟩]
    simp [bt]
  · rw [up_ne _ _ (by intro z; apply h; simpa using z.1), if_neg h]
theorem h_kp {f g : FI} {L : List Nat} (k : kp L f g) (e : L.contains 900 = false) (i c j : Nat) : sp_64 g i c j = sp_64 f i c j := by
  unfold sp_64
  rw [k (9, i, c) 1 e]
