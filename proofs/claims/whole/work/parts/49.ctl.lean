/-! Control: the middle of what was agreed, and the command, side by side. -/
set_option maxRecDepth 4000 in
theorem ct_mono {N M : Nat} {P : Nat → Bool} (h : N ≤ M) : ct N P ≤ ct M P := by
  induction M with
  | zero => rw [show N = 0 by omega]; exact Nat.le_refl _
  | succ M ih =>
    rcases Classical.em (N = M + 1) with e | e
    · rw [e]; exact Nat.le_refl _
    · rw [ct_s]
      have := ih (by omega)
      omega
set_option maxRecDepth 4000 in
theorem ct_full {N : Nat} {P : Nat → Bool} (h : ∀ i, i < N → P i = true) : ct N P = N := by
  induction N with
  | zero => rfl
  | succ N ih => rw [ct_s, ih (fun i hi => h i (by omega)), if_pos (h N (by omega))]
set_option maxRecDepth 4000 in
theorem ct_end {N M : Nat} {P : Nat → Bool} (h : ∀ i, M ≤ i → i < N → P i = false) : ct N P ≤ M := by
  rcases Nat.lt_or_ge N M with e | e
  · have := ct_max N P
    omega
  · rw [ct_tail e h]
    exact ct_max _ _
def so (b : Nat → Int32) (c : Nat) : Prop := ∀ j k, j ≤ k → k < c → (b j).toInt ≤ (b k).toInt
set_option maxRecDepth 4000 in
theorem ins_51 (a : Nat) (x : Int32) : ∀ p (f : FI), so (f (13, a, 0)) p → so ((sp_51_2 a x p f) (13, a, 0)) (p + 1) ∧ (∀ Q : Int32 → Bool, ct (p + 1) (fun k => Q (sp_51_2 a x p f (13, a, 0) k)) = ct p (fun k => Q (f (13, a, 0) k)) + (if Q x = true then 1 else 0)) ∧ (∀ k, p < k → sp_51_2 a x p f (13, a, 0) k = f (13, a, 0) k) := by
  intro p
  induction p with
  | zero =>
    intro f _
    refine ⟨fun j k h1 h2 => ?_, fun Q => ?_, fun k hk => ?_⟩
    · rw [show j = 0 by omega, show k = 0 by omega]
      exact Int.le_refl _
    · rw [ct_s]
      show ct 0 _ + (if Q (xm_up f (13, a, 0) 0 x (13, a, 0) 0) = true then 1 else 0) = _
      rw [up_eq]
      rfl
    · exact up_ne _ _ (fun z => by omega)
  | succ p ih =>
    intro f hs
    unfold sp_51_2
    rcases Classical.em (f (13, a, 0) p ≤ x) with hle | hle
    · rw [if_pos hle]
      rw [Int32.le_iff_toInt_le] at hle
      have lo : ∀ k, k < p + 1 → xm_up f (13, a, 0) (p + 1) x (13, a, 0) k = f (13, a, 0) k := fun k hk => up_ne _ _ (fun z => by omega)
      refine ⟨fun j k h1 h2 => ?_, fun Q => ?_, fun k hk => ?_⟩
      · rcases Classical.em (k = p + 1) with e | e
        · rw [e, up_eq]
          rcases Classical.em (j = p + 1) with e2 | e2
          · rw [e2, up_eq]
            exact Int.le_refl _
          · rw [lo j (by omega)]
            have := hs j p (by omega) (by omega)
            omega
        · rw [lo k (by omega), lo j (by omega)]
          exact hs j k h1 (by omega)
      · rw [ct_s, up_eq]
        rw [ct_ext (N := p + 1) (Q := fun k => Q (f (13, a, 0) k)) (fun i hi => by rw [lo i hi])]
      · exact up_ne _ _ (fun z => by omega)
    · rw [if_neg hle]
      rw [Int32.le_iff_toInt_le] at hle
      have lo : ∀ k, ¬ k = p + 1 → xm_up f (13, a, 0) (p + 1) (f (13, a, 0) p) (13, a, 0) k = f (13, a, 0) k := fun k hk => up_ne _ _ (fun z => hk z.2)
      have hs' : so (xm_up f (13, a, 0) (p + 1) (f (13, a, 0) p) (13, a, 0)) p := fun j k h1 h2 => by
        rw [lo j (by omega), lo k (by omega)]
        exact hs j k h1 (by omega)
      obtain ⟨i1, i2, i3⟩ := ih (xm_up f (13, a, 0) (p + 1) (f (13, a, 0) p)) hs'
      have top := i3 (p + 1) (by omega)
      rw [up_eq] at top
      have lows : ∀ Q : Int32 → Bool, ct p (fun k => Q (xm_up f (13, a, 0) (p + 1) (f (13, a, 0) p) (13, a, 0) k)) = ct p (fun k => Q (f (13, a, 0) k)) := fun Q => ct_ext (fun i hi => by rw [lo i (by omega)])
      have bound : ∀ k, k < p + 1 → (sp_51_2 a x p (xm_up f (13, a, 0) (p + 1) (f (13, a, 0) p)) (13, a, 0) k).toInt ≤ (f (13, a, 0) p).toInt := by
        intro k hk
        have c : ct (p + 1) (fun k => decide ((f (13, a, 0) p).toInt < (sp_51_2 a x p (xm_up f (13, a, 0) (p + 1) (f (13, a, 0) p)) (13, a, 0) k).toInt)) = ct p (fun k => decide ((f (13, a, 0) p).toInt < (f (13, a, 0) k).toInt)) + (if decide ((f (13, a, 0) p).toInt < x.toInt) = true then 1 else 0) := (i2 (fun y => decide ((f (13, a, 0) p).toInt < y.toInt))).trans (by rw [lows (fun y => decide ((f (13, a, 0) p).toInt < y.toInt))])
        have z0 : ct p (fun k => decide ((f (13, a, 0) p).toInt < (f (13, a, 0) k).toInt)) ≤ 0 := ct_end (fun i _ hi => decide_eq_false (by have := hs i p (by omega) (by omega); omega))
        rw [decide_eq_false (show ¬ (f (13, a, 0) p).toInt < x.toInt by omega)] at c
        simp only [Bool.false_eq_true, if_false] at c
        have := ct_none (show ct (p + 1) (fun k => decide ((f (13, a, 0) p).toInt < (sp_51_2 a x p (xm_up f (13, a, 0) (p + 1) (f (13, a, 0) p)) (13, a, 0) k).toInt)) = 0 by omega) k hk
        rw [decide_eq_false_iff_not] at this
        omega
      refine ⟨fun j k h1 h2 => ?_, fun Q => ?_, fun k hk => ?_⟩
      · rcases Classical.em (k = p + 1) with e | e
        · rw [e, top]
          rcases Classical.em (j = p + 1) with e2 | e2
          · rw [e2, top]
            exact Int.le_refl _
          · exact bound j (by omega)
        · exact i1 j k h1 (by omega)
      · rw [ct_s, i2 Q, lows Q, top, ct_s]
        omega
      · rw [i3 k (by omega)]
        exact lo k (by omega)
set_option maxRecDepth 4000 in
theorem i_50 (f : FI) (a : Nat) {i : Nat} (hi : i < 32) : sp_50 f a i = bt (f (8, a, 0) 2) i := by
  unfold sp_50
  rcases Bool.eq_false_or_eq_true (bt (f (8, a, 0) 2) i) with h | h
  · rw [if_neg (fun z => by rw [(bt_test _ hi).mp z] at h; cases h), h]
  · rw [if_pos ((bt_test _ hi).mpr h), h]
/-- whose agreed values count -/
def sel (f : FI) (a j : Nat) : Bool := bt (f (8, a, 0) 2) j && sp_64 f a 1 j
set_option maxRecDepth 4000 in
theorem srt_49 {n : Nat} (hn : n ≤ 6) (f : FI) (a : Nat) : kp [1300] f (sp_49 n f a).2 ∧ so ((sp_49 n f a).2 (13, a, 0)) (sp_49 n f a).1 ∧ (∀ Q : Int32 → Bool, ct (sp_49 n f a).1 (fun k => Q ((sp_49 n f a).2 (13, a, 0) k)) = ct n (fun j => sel f a j && Q (f (10, a, 1) j))) := by
  refine inv_it (N := n) (F := sp_49_4 a) (s0 := (0, f)) (R := fun i (s : Nat × FI) => kp [1300] f s.2 ∧ so (s.2 (13, a, 0)) s.1 ∧ (∀ Q : Int32 → Bool, ct s.1 (fun k => Q (s.2 (13, a, 0) k)) = ct i (fun j => sel f a j && Q (f (10, a, 1) j)))) ⟨kp_re _ _, fun j k _ h => absurd h (Nat.not_lt_zero k), fun Q => rfl⟩ ?_
  intro i s hi hs
  obtain ⟨hk, h1, h2⟩ := hs
  unfold sp_49_4
  have e8 : sp_50 s.2 a i = bt (f (8, a, 0) 2) i := by rw [i_50 _ _ (by omega), hk (8, a, 0) 2 rfl]
  have e9 : sp_64 s.2 a 1 i = sp_64 f a 1 i := h_kp hk rfl _ _ _
  have e10 : sp_65 s.2 a 1 i = f (10, a, 1) i := hk (10, a, 1) i rfl
  have stay : sel f a i = false → kp [1300] f s.2 ∧ so (s.2 (13, a, 0)) s.1 ∧ (∀ Q : Int32 → Bool, ct s.1 (fun k => Q (s.2 (13, a, 0) k)) = ct (i + 1) (fun j => sel f a j && Q (f (10, a, 1) j))) := fun h0 => ⟨hk, h1, fun Q => by rw [ct_s, h0, ← h2 Q]; rfl⟩
  rw [e8, e9, e10]
  rcases Bool.eq_false_or_eq_true (bt (f (8, a, 0) 2) i) with hb | hb
  · rcases Bool.eq_false_or_eq_true (sp_64 f a 1 i) with hc | hc
    · rw [hb, hc, if_neg (show ¬ bI true = 0 by decide), if_neg (show ¬ bI true = 0 by decide)]
      have g := ins_51 a (f (10, a, 1) i) s.1 s.2 h1
      refine ⟨kp_tr hk rfl (kp_sp_51 s.2 a _ s.1), g.1, fun Q => ?_⟩
      have g2 := g.2.1 Q
      have hsel : sel f a i = true := by unfold sel; rw [hb, hc]; rfl
      rw [show ct (i + 1) (fun j => sel f a j && Q (f (10, a, 1) j)) = ct i (fun j => sel f a j && Q (f (10, a, 1) j)) + (if Q (f (10, a, 1) i) = true then 1 else 0) by rw [ct_s, hsel, Bool.true_and], ← h2 Q]
      exact g2
    · rw [hb, hc, if_neg (show ¬ bI true = 0 by decide), if_pos (show bI false = 0 from rfl)]
      exact stay (by unfold sel; rw [hb, hc]; rfl)
  · rw [hb, if_pos (show bI false = 0 from rfl)]
    exact stay (by unfold sel; rw [hb]; rfl)
set_option maxRecDepth 4000 in
theorem lg_gt {x y : Int64} : 0 < lg_cmp x y ↔ y.toInt < x.toInt := by
  unfold lg_cmp
  rcases Classical.em (x > y) with h | h
  · rw [if_pos h]
    rw [gt_iff_lt, Int64.lt_iff_toInt_lt] at h
    exact ⟨fun _ => h, fun _ => by decide⟩
  · rw [if_neg h]
    rw [gt_iff_lt, Int64.lt_iff_toInt_lt] at h
    refine ⟨fun z => ?_, fun z => absurd z h⟩
    exfalso
    revert z
    split <;> decide
set_option maxRecDepth 4000 in
theorem lg_lt {x y : Int64} : lg_cmp x y < 0 ↔ x.toInt < y.toInt := by
  unfold lg_cmp
  rcases Classical.em (x > y) with h | h
  · rw [if_pos h]
    rw [gt_iff_lt, Int64.lt_iff_toInt_lt] at h
    exact ⟨fun z => absurd z (by decide), fun z => by omega⟩
  · rw [if_neg h]
    rw [gt_iff_lt, Int64.lt_iff_toInt_lt] at h
    rcases Classical.em (x = y) with e | e
    · rw [if_pos e, e]
      exact ⟨fun z => absurd z (by decide), fun z => by omega⟩
    · rw [if_neg e]
      refine ⟨fun _ => ?_, fun _ => by decide⟩
      have : ¬ x.toInt = y.toInt := fun z => e (Int64.toInt_inj.mp z)
      omega
set_option maxRecDepth 4000 in
theorem lg_ge {x y : Int64} : 0 ≤ lg_cmp x y ↔ y.toInt ≤ x.toInt := by
  have h := @lg_lt x y
  rw [Int32.lt_iff_toInt_lt] at h
  rw [Int32.le_iff_toInt_le]
  omega
set_option maxRecDepth 4000 in
theorem lg_le {x y : Int64} : lg_cmp x y ≤ 0 ↔ x.toInt ≤ y.toInt := by
  have h := @lg_gt x y
  rw [Int32.lt_iff_toInt_lt] at h
  rw [Int32.le_iff_toInt_le]
  omega
set_option maxRecDepth 4000 in
theorem cl_eq {v a b : Int64} (hab : a.toInt ≤ b.toInt) : sp_19 v a b = sp_89 v a b := by
  unfold sp_19 sp_89 sp_143 sp_142
  rcases Classical.em (v.toInt < b.toInt) with h1 | h1
  · rw [if_pos (lg_gt.mpr h1)]
    rcases Classical.em (a.toInt < v.toInt) with h2 | h2
    · rw [if_pos (lg_lt.mpr h2), if_pos (lg_ge.mpr (by omega)), if_pos (lg_le.mpr (by omega))]
    · rw [if_neg (fun z => h2 (lg_lt.mp z))]
      rcases Classical.em (a = v) with e | e
      · rw [if_pos (lg_ge.mpr (by rw [e]; omega)), if_pos (lg_le.mpr (by omega)), e]
      · rw [if_neg (fun z => e (Int64.toInt_inj.mp (by have := lg_ge.mp z; omega)))]
  · rw [if_neg (fun z => h1 (lg_gt.mp z))]
    have h3 : 0 ≤ lg_cmp v a := lg_ge.mpr (by omega)
    rw [if_pos h3]
    rcases Classical.em (v = b) with e | e
    · rw [if_pos (lg_le.mpr (by rw [e]; omega)), e]
      rcases Classical.em (a.toInt < b.toInt) with h2 | h2
      · rw [if_pos (lg_lt.mpr h2)]
      · rw [if_neg (fun z => h2 (lg_lt.mp z))]
        exact Int64.toInt_inj.mp (by omega)
    · rw [if_neg (show ¬ lg_cmp v b ≤ 0 from fun z => e (Int64.toInt_inj.mp (by have := lg_le.mp z; omega)))]
      rcases Classical.em (a.toInt < b.toInt) with h2 | h2
      · rw [if_pos (lg_lt.mpr h2)]
      · rw [if_neg (fun z => h2 (lg_lt.mp z))]
        exact Int64.toInt_inj.mp (by omega)
/-- a node's agreed values and members, side by side -/
def AM (n a : Nat) (f g : FI) : Prop := (∀ o, o < n → rl f g 16 1 a o (6 * a + o)) ∧ (∀ j, j < n → g (21, 14, 0) (6 * a + j) = bI (bt (f (8, a, 0) 2) j))
set_option maxRecDepth 4000 in
theorem s_87 {n a : Nat} {f g : FI} (h : AM n a f g) {j : Nat} (hj : j < n) : sp_87 g a j = sel f a j := by
  unfold sp_87 sel
  rw [h.2 j hj, (h.1 j hj).1]
  cases bt (f (8, a, 0) 2) j <;> cases sp_64 f a 1 j <;> rfl
set_option maxRecDepth 4000 in
theorem v_87 {n a : Nat} {f g : FI} (h : AM n a f g) {j : Nat} (hj : j < n) (hs : sel f a j = true) : g (21, 17, 0) (6 * a + j) = f (10, a, 1) j := by
  unfold sel at hs
  rw [Bool.and_eq_true] at hs
  exact ((h.1 j hj).2 hs.2).symm
set_option maxRecDepth 4000 in
theorem s_88 {n a : Nat} {f g : FI} (h : AM n a f g) (v : Int32) : sp_88 n g a v false = ct n (fun j => sel f a j && decide ((f (10, a, 1) j).toInt < v.toInt)) ∧ sp_88 n g a v true = ct n (fun j => sel f a j && decide ((f (10, a, 1) j).toInt ≤ v.toInt)) := by
  constructor
  · refine it_ct (fun j s hj => ?_)
    unfold sp_88_6
    rw [s_87 h hj]
    rcases Bool.eq_false_or_eq_true (sel f a j) with hs | hs
    · rw [hs, v_87 h hj hs, if_neg (show ¬ bI true = 0 by decide), if_pos (show bI false = 0 from rfl), Bool.true_and]
      rcases Classical.em ((f (10, a, 1) j).toInt < v.toInt) with h1 | h1
      · rw [decide_eq_true h1, if_pos (Int32.lt_iff_toInt_lt.mpr h1)]
        rfl
      · rw [decide_eq_false h1, if_neg (fun z => h1 (Int32.lt_iff_toInt_lt.mp z))]
        rfl
    · rw [hs]
      rfl
  · refine it_ct (fun j s hj => ?_)
    unfold sp_88_6
    rw [s_87 h hj]
    rcases Bool.eq_false_or_eq_true (sel f a j) with hs | hs
    · rw [hs, v_87 h hj hs, if_neg (show ¬ bI true = 0 by decide), if_neg (show ¬ bI true = 0 by decide), Bool.true_and]
      rcases Classical.em ((f (10, a, 1) j).toInt < v.toInt) with h1 | h1
      · rw [decide_eq_true (show (f (10, a, 1) j).toInt ≤ v.toInt by omega), if_pos (Int32.lt_iff_toInt_lt.mpr h1)]
        rfl
      · rw [if_neg (fun z => h1 (Int32.lt_iff_toInt_lt.mp z))]
        rcases Classical.em (f (10, a, 1) j = v) with h2 | h2
        · rw [if_pos h2, h2, decide_eq_true (Int.le_refl _)]
          rfl
        · have : ¬ (f (10, a, 1) j).toInt = v.toInt := fun z => h2 (Int32.toInt_inj.mp z)
          rw [if_neg h2, decide_eq_false (show ¬ (f (10, a, 1) j).toInt ≤ v.toInt by omega)]
          rfl
    · rw [hs]
      rfl
set_option maxRecDepth 4000 in
theorem c_88 {n a : Nat} {g : FI} {v w : Int32} {t : Bool} : sp_88 n (xm_up g (21, 19, 0) a w) a v t = sp_88 n g a v t := by
  have e : sp_88_6 (xm_up g (21, 19, 0) a w) a v t = sp_88_6 g a v t := by
    funext j s
    unfold sp_88_6 sp_87
    rw [up_ne _ _ (by simp), up_ne _ _ (by simp), up_ne _ _ (by simp)]
  unfold sp_88
  rw [e]
set_option maxRecDepth 4000 in
theorem c_87 {a j : Nat} {g : FI} {w : Int32} : sp_87 (xm_up g (21, 19, 0) a w) a j = sp_87 g a j := by
  unfold sp_87
  rw [up_ne _ _ (by simp), up_ne _ _ (by simp)]
set_option maxRecDepth 4000 in
theorem cnt_86 {n a : Nat} {f g : FI} (h : AM n a f g) : lq_it n (sp_86_4 g a) 0 = ct n (sel f a) := by
  refine it_ct (fun j s hj => ?_)
  unfold sp_86_4
  rw [s_87 h hj]
  rcases Bool.eq_false_or_eq_true (sel f a j) with hs | hs <;> rw [hs] <;> rfl
set_option maxRecDepth 4000 in
theorem cnt_49 {n : Nat} (hn : n ≤ 6) (f : FI) (a : Nat) : (sp_49 n f a).1 = ct n (sel f a) := by
  have h := (srt_49 hn f a).2.2 (fun _ => true)
  rw [ct_full (fun _ _ => rfl)] at h
  rw [h]
  exact ct_ext (fun j _ => Bool.and_true _)
set_option maxRecDepth 4000 in
/-- the middle -/
theorem mid_eq {n a : Nat} {f g : FI} (hn : n ≤ 6) (h : AM n a f g) (h0 : ¬ ct n (sel f a) = 0) : lq_it n (sp_86_60 n g a) (0 : Int64) = (sp_48_mid n f a).toInt64 := by
  obtain ⟨-, hso, hQ⟩ := srt_49 hn f a
  have hC := cnt_49 hn f a
  have hmx := ct_max n (sel f a)
  unfold sp_48_mid
  rw [hC] at hso hQ ⊢
  generalize (sp_49 n f a).2 (13, a, 0) = b at *
  generalize hCC : ct n (sel f a) = C at *
  generalize hm : (C - 1) / 2 = m at *
  have hmC : m < C := by omega
  have lt_v : ∀ v, sp_88 n g a v false = ct C (fun k => decide ((b k).toInt < v.toInt)) := fun v => by rw [(s_88 h v).1, hQ (fun y => decide (y.toInt < v.toInt))]
  have le_v : ∀ v, sp_88 n g a v true = ct C (fun k => decide ((b k).toInt ≤ v.toInt)) := fun v => by rw [(s_88 h v).2, hQ (fun y => decide (y.toInt ≤ v.toInt))]
  have hlo : ∀ v : Int32, v.toInt ≤ (b m).toInt → ct C (fun k => decide ((b k).toInt < v.toInt)) ≤ m := fun v hv => ct_end (fun k h1 h2 => decide_eq_false (by have := hso m k h1 h2; omega))
  have hlo2 : ∀ v : Int32, v.toInt < (b m).toInt → ct C (fun k => decide ((b k).toInt ≤ v.toInt)) ≤ m := fun v hv => ct_end (fun k h1 h2 => decide_eq_false (by have := hso m k h1 h2; omega))
  have hhi : ∀ v : Int32, (b m).toInt ≤ v.toInt → m < ct C (fun k => decide ((b k).toInt ≤ v.toInt)) := fun v hv => by
    have e1 := ct_full (N := m + 1) (P := fun k => decide ((b k).toInt ≤ v.toInt)) (fun k hk => decide_eq_true (by have := hso k m (by omega) hmC; omega))
    have e2 := ct_mono (N := m + 1) (M := C) (P := fun k => decide ((b k).toInt ≤ v.toInt)) hmC
    omega
  have hhi2 : ∀ v : Int32, (b m).toInt < v.toInt → m < ct C (fun k => decide ((b k).toInt < v.toInt)) := fun v hv => by
    have e1 := ct_full (N := m + 1) (P := fun k => decide ((b k).toInt < v.toInt)) (fun k hk => decide_eq_true (by have := hso k m (by omega) hmC; omega))
    have e2 := ct_mono (N := m + 1) (M := C) (P := fun k => decide ((b k).toInt < v.toInt)) hmC
    omega
  have e := inv_it (N := n) (F := sp_86_60 n g a) (s0 := (0 : Int64)) (R := fun i (s : Int64) => s = (b m).toInt64 ∨ ∀ j, j < i → sel f a j = true → ¬ f (10, a, 1) j = b m) (Or.inr (fun j hj => absurd hj (Nat.not_lt_zero j))) ?_
  · rcases e with e | e
    · exact e
    · exfalso
      have h1 := hQ (fun y => decide (y = b m))
      have h2 : 0 < ct C (fun k => decide (b k = b m)) := by
        rcases Nat.eq_zero_or_pos (ct C (fun k => decide (b k = b m))) with z | z
        · have := ct_none z m hmC
          rw [decide_eq_true rfl] at this
          cases this
        · exact z
      rw [h1] at h2
      obtain ⟨j, hj, hb⟩ := ct_pos h2
      rw [Bool.and_eq_true, decide_eq_true_eq] at hb
      exact e j hj hb.1 hb.2
  · intro i s hi hs
    unfold sp_86_60
    rw [c_87, c_88, c_88, cnt_86 h, s_87 h hi, hCC, hm, lt_v, le_v]
    have keep : ¬ (sel f a i = true ∧ f (10, a, 1) i = b m) → (s = (b m).toInt64 ∨ ∀ j, j < i + 1 → sel f a j = true → ¬ f (10, a, 1) j = b m) := by
      intro hne
      rcases hs with hs | hs
      · exact Or.inl hs
      · refine Or.inr (fun j hj hsel => ?_)
        rcases Classical.em (j = i) with e | e
        · rw [e] at hsel ⊢
          exact fun z => hne ⟨hsel, z⟩
        · exact hs j (by omega) hsel
    rcases Bool.eq_false_or_eq_true (sel f a i) with hb | hb
    · rw [hb, if_neg (show ¬ bI true = 0 by decide), v_87 h hi hb]
      have m1 := ct_max C (fun k => decide ((b k).toInt < (f (10, a, 1) i).toInt))
      have m2 := ct_max C (fun k => decide ((b k).toInt ≤ (f (10, a, 1) i).toInt))
      rcases Nat.lt_or_ge m (ct C (fun k => decide ((b k).toInt < (f (10, a, 1) i).toInt))) with c1 | c1
      · rw [if_pos (nI_lt c1 (by omega))]
        refine keep (fun z => ?_)
        rw [z.2] at c1
        have := hlo (b m) (Int.le_refl _)
        omega
      · rw [if_neg (nI_nlt c1 (by omega))]
        rcases Nat.lt_or_ge m (ct C (fun k => decide ((b k).toInt ≤ (f (10, a, 1) i).toInt))) with c2 | c2
        · rw [if_neg (nI_ge c2 (by omega))]
          have e1 : ¬ (f (10, a, 1) i).toInt < (b m).toInt := fun z => by have := hlo2 _ z; omega
          have e2 : ¬ (b m).toInt < (f (10, a, 1) i).toInt := fun z => by have := hhi2 _ z; omega
          exact Or.inl (by rw [Int32.toInt_inj.mp (show (f (10, a, 1) i).toInt = (b m).toInt by omega)])
        · rw [if_pos (nI_le c2 (by omega))]
          refine keep (fun z => ?_)
          rw [z.2] at c2
          have := hhi (b m) (Int.le_refl _)
          omega
    · rw [hb, if_pos (show bI false = 0 from rfl)]
      exact keep (fun z => by rw [hb] at z; cases z.1)
def GN (f : FI) (fl : FL) (g : FI) : Prop := f (1, 0, 0) 1 = g (20, 0, 0) 4 ∧ fl (1, 0, 0) 2 = (g (20, 0, 0) 5).toInt64 ∧ fl (1, 0, 0) 3 = (g (20, 0, 0) 6).toInt64 ∧ fl (1, 0, 0) 4 = (g (20, 0, 0) 7).toInt64
set_option maxRecDepth 4000 in
/-- a node's command, side by side -/
theorem ctl_eq {n a : Nat} {f g : FI} {fl : FL} (hn : n ≤ 6) (h : AM n a f g) (hG : GN f fl g) (h0 : f (8, a, 0) 0 = g (21, 12, 0) a) (h1 : f (8, a, 0) 1 = g (21, 13, 0) a) (h11 : f (7, a, 0) 11 = 0) :
    (sp_48 n f fl a) (7, a, 0) 11 = (sp_86 n g a) (21, 19, 0) a ∧ (¬ (sp_48 n f fl a) (7, a, 0) 11 = 0 → (sp_48 n f fl a) (7, a, 0) 12 = (sp_86 n g a) (21, 20, 0) a) ∧ (sp_48 n f fl a) (8, a, 0) 0 = (sp_86 n g a) (21, 12, 0) a ∧ (sp_48 n f fl a) (8, a, 0) 1 = (sp_86 n g a) (21, 13, 0) a ∧ (∀ j, 2 ≤ j → (sp_48 n f fl a) (8, a, 0) j = f (8, a, 0) j) ∧ ((sp_86 n g a) (21, 19, 0) a = 0 ∨ (sp_86 n g a) (21, 19, 0) a = 1) := by
  have k := kp_sp_49 n f a
  have hC := cnt_49 hn f a
  have hD := cnt_86 h
  have hm := ct_max n (sel f a)
  rcases Classical.em (ct n (sel f a) = 0) with z | z
  · have e1 : sp_48 n f fl a = (sp_49 n f a).2 := by
      unfold sp_48
      rw [hC, z]
      exact if_pos rfl
    have e2 : sp_86 n g a = xm_up g (21, 19, 0) a 0 := by
      unfold sp_86
      rw [hD, z]
      exact if_pos rfl
    rw [e1, e2, up_eq, up_ne _ _ (by simp), up_ne _ _ (by simp), k (7, a, 0) 11 rfl, h11, k (8, a, 0) 0 rfl, k (8, a, 0) 1 rfl]
    exact ⟨rfl, fun z => absurd rfl z, h0, h1, fun j _ => k (8, a, 0) j rfl, Or.inl rfl⟩
  · have em := mid_eq hn h z
    have ee : sp_48_e n f a = sp_86_e n g a := by
      unfold sp_48_e sp_86_e
      rw [em, k (1, 0, 0) 1 rfl, hG.1]
      exact cl_eq (by decide)
    have ei : sp_48_i n f fl a = sp_86_i n g a := by
      unfold sp_48_i sp_86_i
      rw [ee, k (8, a, 0) 0 rfl, h0, hG.2.2.1]
      exact cl_eq (by decide)
    have eu : sp_48_u n f fl a = sp_86_u n g a := by
      unfold sp_48_u sp_86_u sp_48_ch
      rw [ee, ei, k (8, a, 0) 1 rfl, h1, hG.2.1, hG.2.2.2]
    have en0 : ¬ nI (ct n (sel f a)) = 0 := nI_ne0 (by omega) (by omega)
    have enl : ¬ nI (ct n (sel f a)) ≤ 0 := nI_ge (a := 0) (by omega) (by omega)
    have e1 : ∀ b j, ¬ (b = (8, a, 0) ∧ j = 0) → ¬ (b = (8, a, 0) ∧ j = 1) → ¬ (b = (7, a, 0) ∧ j = 12) → ¬ (b = (7, a, 0) ∧ j = 11) → sp_48 n f fl a b j = (sp_49 n f a).2 b j := by
      intro b j q1 q2 q3 q4
      unfold sp_48
      rw [hC, if_neg en0, up_ne _ _ q4, up_ne _ _ q3, up_ne _ _ q2, up_ne _ _ q1]
    refine ⟨?_, fun _ => ?_, ?_, ?_, fun j hj => ?_, ?_⟩
    · unfold sp_48 sp_86
      rw [hC, hD, if_neg en0, if_neg en0, up_eq, up_ne _ _ (by simp), up_ne _ _ (by simp), up_ne _ _ (by simp), up_eq, if_neg enl]
      rfl
    · unfold sp_48 sp_86
      rw [hC, hD, if_neg en0, if_neg en0, up_ne _ _ (by simp), up_eq, up_ne _ _ (by simp), up_ne _ _ (by simp), up_eq, eu, cl_eq (by decide)]
    · unfold sp_48 sp_86
      rw [hC, hD, if_neg en0, if_neg en0, up_ne _ _ (by simp), up_ne _ _ (by simp), up_ne _ _ (by simp), up_eq, up_ne _ _ (by simp), up_eq, eu, ee, ei, k (8, a, 0) 0 rfl, h0]
    · unfold sp_48 sp_86
      rw [hC, hD, if_neg en0, if_neg en0, up_ne _ _ (by simp), up_ne _ _ (by simp), up_eq, up_eq, ee]
    · rw [e1 (8, a, 0) j (by simp; omega) (by simp; omega) (by simp) (by simp)]
      exact k (8, a, 0) j rfl
    · unfold sp_86
      rw [hD, if_neg en0, up_ne _ _ (by simp), up_ne _ _ (by simp), up_ne _ _ (by simp), up_eq, if_neg enl]
      exact Or.inr rfl
set_option maxRecDepth 4000 in
/-- what the reference's control leaves as it was -/
theorem ctl_ne {n a q : Nat} {g : FI} (hq : ¬ q = a) (F : Nat) : (sp_86 n g a) (21, F, 0) q = g (21, F, 0) q := by
  unfold sp_86
  split
  · rw [up_ne _ _ (fun z => hq z.2)]
  · rw [up_ne _ _ (fun z => hq z.2), up_ne _ _ (fun z => hq z.2), up_ne _ _ (fun z => hq z.2), up_ne _ _ (fun z => hq z.2)]
