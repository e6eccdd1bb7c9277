/-! The values, side by side. -/
/-- a place of the class's contents against the reference's -/
def rl (f g : FI) (G c k p I : Nat) : Prop := g (21, G, 0) I = bI (sp_64 f k c p) ∧ (sp_64 f k c p = true → f (10, k, c) p = g (21, G + 1, 0) I)
theorem rl_mv {f g f' g' : FI} {G c k p I : Nat} (h : rl f g G c k p I) (e1 : sp_64 f' k c p = sp_64 f k c p) (e2 : f' (10, k, c) p = f (10, k, c) p) (e3 : g' (21, G, 0) I = g (21, G, 0) I) (e4 : g' (21, G + 1, 0) I = g (21, G + 1, 0) I) : rl f' g' G c k p I := by
  unfold rl
  rw [e1, e2, e3, e4]
  exact h
def dg (g : FI) (gl : FL) (p k G I : Nat) (q' ok : Int32) (F : Int64) : FI := sp_79 (xm_up (xm_up (sp_75 g gl p (nI k) F).1 (21, G, 0) I (bI (sp_76 (sp_75 g gl p (nI k) F).1 (sp_75 g gl p (nI k) F).2 (nI p) q'))) (21, G + 1, 0) I (sp_78 (sp_75 g gl p (nI k) F).2)) k ok
def DV (n : Nat) (f : FI) (fl : FL) (g : FI) (gl : FL) (r : Nat) (f' g' : FI) (gl' : FL) (p m : Nat) (x : Int32) (k c G I : Nat) : Prop := RS n f' fl g' gl' r ∧ dl f' fl p m r x ∧ KL gl gl' ∧ rl f' g' G c k p I ∧ (∀ k' c' p', p' < 32 → ¬ (k' = k ∧ c' = c ∧ p' = p) → sp_64 f' k' c' p' = sp_64 f k' c' p' ∧ f' (10, k', c') p' = f (10, k', c') p') ∧ (∀ J, ¬ J = I → g' (21, G, 0) J = g (21, G, 0) J ∧ g' (21, G + 1, 0) J = g (21, G + 1, 0) J)
theorem KL_75 (g : FI) (gl : FL) (p : Nat) (y : Int32) (F : Int64) : KL gl (sp_75 g gl p y F).2 := fun a k hk => car_k g gl p y F hk
theorem dg_got {g : FI} {gl : FL} {p k G I : Nat} {q' ok : Int32} {F : Int64} (hG : G = 27 ∨ G = 29 ∨ G = 34) : dg g gl p k G I q' ok F (21, G, 0) I = bI (sp_76 (sp_75 g gl p (nI k) F).1 (sp_75 g gl p (nI k) F).2 (nI p) q') ∧ dg g gl p k G I q' ok F (21, G + 1, 0) I = sp_78 (sp_75 g gl p (nI k) F).2 := by
  unfold dg sp_79
  constructor
  · rw [up_ne _ _ (by simp; omega), up_ne _ _ (by simp), up_eq]
  · rw [up_ne _ _ (by simp; omega), up_eq]
theorem dg_ne {g : FI} {gl : FL} {p k G I : Nat} {q' ok : Int32} {F : Int64} (hG : G = 27 ∨ G = 29 ∨ G = 34) (J : Nat) (hJ : ¬ J = I) : dg g gl p k G I q' ok F (21, G, 0) J = g (21, G, 0) J ∧ dg g gl p k G I q' ok F (21, G + 1, 0) J = g (21, G + 1, 0) J := by
  unfold dg sp_79
  constructor
  · rw [up_ne _ _ (by simp; omega), up_ne _ _ (by simp), up_ne _ _ (by simp [hJ]), car_fi, up_ne _ _ (by simp)]
  · rw [up_ne _ _ (by simp; omega), up_ne _ _ (by simp [hJ]), up_ne _ _ (by simp), car_fi, up_ne _ _ (by simp)]
theorem dg_mid {g : FI} {gl : FL} {p k G I : Nat} {v w : Int32} {F : Int64} {a : xm_I} {j : Nat} (ha : ¬ a = (21, G, 0)) (hb : ¬ a = (21, G + 1, 0)) (hc : ¬ (a = (20, 0, 0) ∧ j = 25)) : (xm_up (xm_up (sp_75 g gl p (nI k) F).1 (21, G, 0) I v) (21, G + 1, 0) I w) a j = g a j := by
  rw [up_ne _ _ (fun z => hb z.1), up_ne _ _ (fun z => ha z.1), car_fi, up_ne _ _ hc]
theorem dv_one {n : Nat} {f : FI} {fl : FL} {g : FI} {gl : FL} {r p m k : Nat} {x q' ok : Int32} {G c I : Nat} (hS : RS n f fl g gl r) (hL : dl f fl p m r x) (hn : n ≤ 6) (hp : p < n) (hm : m < 16) (hr : r < 256) (hk : k ≤ n) (hG : G = 27 ∨ G = 29 ∨ G = 34) (hok : ok = 0 ↔ sp_40 f q' = false) (h0 : sp_64 f k c p = false) :
    DV n f fl g gl r (sp_39 f k q' k c p) (dg g gl p k G I q' ok (sp_120 (nI p) (nI m) (nI r) x)) (sp_75 g gl p (nI k) (sp_120 (nI p) (nI m) (nI r) x)).2 p m x k c G I := by
  have hD := dlv hS hL hn hp hm hr hk q'
  have h6 : f (2, 0, 0) 6 = dC (g (21, 9, 0) p) := by
    rw [← hS.1 p hp]
    exact hL.2.1
  refine ⟨?_, dl_kp hL (kp_sp_39 f k q' k c p) rfl rfl, KL_75 _ _ _ _ _, ?_, ?_, fun J hJ => dg_ne hG J hJ⟩
  · refine RS_dlv hS ?_ (fun p => ?_) ?_ ?_ (fun p => ?_) (fun p => ?_) hok hk
    · rw [h6, up_ne _ _ (by simp), up_ne _ _ (by simp), car_fi, up_eq]
    · exact dg_mid (by simp; omega) (by simp; omega) (by simp)
    · exact dg_mid (by simp) (by simp) (by simp)
    · exact dg_mid (by simp) (by simp) (by simp)
    · exact dg_mid (by simp; omega) (by simp; omega) (by simp)
    · exact KL_75 _ _ _ _ _ _ _ (by simp)
  · unfold rl
    rw [(dg_got hG).1, (dg_got hG).2, hD.1, hD.2, h_39 f k q' k c p k c (by omega) (show p < 32 by omega), v_39, h0]
    rcases Bool.eq_false_or_eq_true (sp_40 f q') with h | h
    · rw [if_pos ⟨⟨rfl, rfl, rfl⟩, h⟩, if_pos ⟨⟨rfl, rfl, rfl⟩, h⟩, h]
      exact ⟨rfl, fun _ => rfl⟩
    · rw [if_neg (show ¬ ((k = k ∧ c = c ∧ p = p) ∧ sp_40 f q' = true) from fun z => by rw [z.2] at h; cases h), h]
      exact ⟨rfl, fun z => by cases z⟩
  · intro k' c' p' hp' hne
    rw [h_39 f k q' k c p k' c' (by omega) hp', v_39, if_neg (fun z => hne z.1), if_neg (fun z => hne z.1)]
    exact ⟨rfl, rfl⟩
def RD (n : Nat) (f g : FI) : Prop := ∀ p, p < n → f (7, p, 0) 2 = g (21, 8, 0) p
theorem nI_ne {a b : Nat} (ha : a < 100000) (hb : b < 100000) (h : ¬ a = b) : ¬ nI a = nI b := fun z => h ((nI_eq (by omega) (by omega)).mp z)
def V1 (n : Nat) (f : FI) (fl : FL) (gl0 : FL) (r T : Nat) (s : FI × FL) : Prop := RS n f fl s.1 s.2 r ∧ RD n f s.1 ∧ KL gl0 s.2 ∧ (∀ k i, k < n → i < n → 6 * i + k < T → ¬ i = k → rl f s.1 27 0 k i (6 * k + i)) ∧ (∀ k i, k < n → i < n → T ≤ 6 * i + k → sp_64 f k 0 i = false)
theorem val_in {n : Nat} {fl gl0 : FL} {r i1 j : Nat} {f : FI} {s : FI × FL} {x : Int32} {s1 : FI × FL} (hn : n ≤ 6) (hr : r < 256) (hi : i1 < n) (hj : j < n) (hV : V1 n f fl gl0 r (6 * i1 + j) s) (hL : dl f fl i1 0 r x) (hF : sp_71_f i1 s1 = sp_120 (nI i1) (nI 0) (nI r) x) :
    V1 n (sp_16_31 i1 j f) fl gl0 r (6 * i1 + (j + 1)) (sp_71_26 i1 s1 j s) ∧ dl (sp_16_31 i1 j f) fl i1 0 r x := by
  obtain ⟨hS, hD, hK, hV1, hV0⟩ := hV
  have k1 := kp_sp_16_31 i1 j f
  have k2 := kp_sp_71_26 i1 s1 j s
  have hD' : RD n (sp_16_31 i1 j f) (sp_71_26 i1 s1 j s).1 := fun p hp => by rw [k1 (7, p, 0) 2 rfl, k2 (21, 8, 0) p rfl]; exact hD p hp
  rcases Classical.em (j = i1) with hji | hji
  · have e1 : sp_16_31 i1 j f = f := if_pos (by rw [hji])
    have e2 : sp_71_26 i1 s1 j s = s := if_pos (by rw [hji])
    rw [e1, e2]
    refine ⟨⟨hS, hD, hK, fun k i hk hi' ht hne => hV1 k i hk hi' (by omega) hne, fun k i hk hi' ht => hV0 k i hk hi' (by omega)⟩, hL⟩
  · have e1 : sp_16_31 i1 j f = sp_39 f j (0 : Int32) j 0 i1 := if_neg (nI_ne (by omega) (by omega) hji)
    have e2 : sp_71_26 i1 s1 j s = (dg s.1 s.2 i1 j 27 (6 * j + i1) (0 : Int32) (bI (sp_76 (sp_75 s.1 s.2 i1 (nI j) (sp_120 (nI i1) (nI 0) (nI r) x)).1 (sp_75 s.1 s.2 i1 (nI j) (sp_120 (nI i1) (nI 0) (nI r) x)).2 (nI i1) (0 : Int32))) (sp_120 (nI i1) (nI 0) (nI r) x), (sp_75 s.1 s.2 i1 (nI j) (sp_120 (nI i1) (nI 0) (nI r) x)).2) := by
      unfold sp_71_26
      rw [if_neg (nI_ne (by omega) (by omega) hji), hF]
      rfl
    rw [e1, e2] at hD'
    rw [e1, e2]
    have h := dv_one (G := 27) (I := 6 * j + i1) (q' := (0 : Int32)) hS hL hn hi (by omega) hr (Nat.le_of_lt hj) (Or.inl rfl) (ok := bI (sp_76 (sp_75 s.1 s.2 i1 (nI j) (sp_120 (nI i1) (nI 0) (nI r) x)).1 (sp_75 s.1 s.2 i1 (nI j) (sp_120 (nI i1) (nI 0) (nI r) x)).2 (nI i1) (0 : Int32))) (by rw [(dlv hS hL hn hi (by omega) hr (Nat.le_of_lt hj) 0).1]; exact bI0 _) (hV0 j i1 hj hi (by omega))
    obtain ⟨a1, a2, a3, a4, a5, a6⟩ := h
    refine ⟨⟨a1, hD', KL_tr hK a3, fun k i hk hi' ht hne => ?_, fun k i hk hi' ht => ?_⟩, a2⟩
    · rcases Classical.em (k = j ∧ i = i1) with h | h
      · rw [h.1, h.2]
        exact a4
      · have b1 := hV1 k i hk hi' (by omega) hne
        have b2 := a5 k 0 i (by omega) (fun z => h ⟨z.1, z.2.2⟩)
        have b3 := a6 (6 * k + i) (by omega)
        exact rl_mv b1 b2.1 b2.2 b3.1 b3.2
    · rw [(a5 k 0 i (by omega) (fun z => by omega)).1]
      exact hV0 k i hk hi' (by omega)
theorem val_out {n : Nat} {fl gl0 : FL} {r i1 : Nat} {f : FI} {s : FI × FL} (hn : n ≤ 6) (hr : r < 256) (hi : i1 < n) (hV : V1 n f fl gl0 r (6 * i1) s) :
    V1 n (sp_16_2 n fl i1 f) fl gl0 r (6 * (i1 + 1)) (sp_71_2 n i1 s) := by
  obtain ⟨hS, hD, hK, hV1, hV0⟩ := hV
  have hS2 := RS_send hS hi (nI 0) (f (7, i1, 0) 2)
  have hL2 := dl_38 hS i1 0 (f (7, i1, 0) 2)
  have hF : sp_71_f i1 s = sp_120 (nI i1) (nI 0) (nI r) (f (7, i1, 0) 2) := by
    rw [hD i1 hi]
    exact fr_72 hS i1 _ _
  have k1 := kp_sp_38 f fl i1 (nI 0) (f (7, i1, 0) 2)
  have k2 := kp_sp_72 s.1 i1 (nI 0) (f (7, i1, 0) 2)
  have e := rel_it (N := n) (F := sp_16_31 i1) (G := sp_71_26 i1 s) (R := fun j F S => V1 n F fl gl0 r (6 * i1 + j) S ∧ dl F fl i1 0 r (f (7, i1, 0) 2)) (s0 := sp_38 f fl i1 (nI 0) (f (7, i1, 0) 2)) (t0 := ((sp_72 s.1 i1 (nI 0) (f (7, i1, 0) 2)).2, s.2)) ⟨⟨hS2, ?_, hK, ?_, ?_⟩, hL2⟩ ?_
  · obtain ⟨⟨c1, c2, c3, c4, c5⟩, -⟩ := e
    unfold sp_16_2 sp_71_2
    rw [← hD i1 hi]
    exact ⟨c1, c2, c3, fun k i hk hi' ht hne => c4 k i hk hi' (by omega) hne, fun k i hk hi' ht => c5 k i hk hi' (by omega)⟩
  · intro p hp
    rw [k1 (7, p, 0) 2 rfl]
    exact (hD p hp).trans (k2 (21, 8, 0) p rfl).symm
  · intro k i hk hi' ht hne
    have b1 := hV1 k i hk hi' (by omega) hne
    exact rl_mv b1 (h_kp k1 rfl _ _ _) (k1 (10, k, 0) i rfl) (k2 (21, 27, 0) _ rfl) (k2 (21, 28, 0) _ rfl)
  · intro k i hk hi' ht
    rw [h_kp k1 rfl]
    exact hV0 k i hk hi' (by omega)
  · intro j F S hj h
    exact val_in hn hr hi hj h.1 h.2 hF
/-- after the values -/
theorem val_all {n : Nat} {fl gl : FL} {r : Nat} {f g : FI} (hn : n ≤ 6) (hr : r < 256) (hS : RS n f fl g gl r) (hD : RD n f g) (h0 : ∀ k i, k < n → i < n → sp_64 f k 0 i = false) :
    RS n (sp_16 n f fl) fl (sp_71 n g gl).1 (sp_71 n g gl).2 r ∧ KL gl (sp_71 n g gl).2 ∧ (∀ k i, k < n → i < n → ¬ i = k → rl (sp_16 n f fl) (sp_71 n g gl).1 27 0 k i (6 * k + i)) := by
  have e := rel_it (N := n) (F := sp_16_2 n fl) (G := sp_71_2 n) (R := fun j F S => V1 n F fl gl r (6 * j) S) (s0 := f) (t0 := (g, gl)) ⟨hS, hD, fun _ _ _ => rfl, fun k i hk hi' ht hne => by omega, fun k i hk hi' ht => h0 k i hk hi'⟩ (fun j F S hj h => val_out hn hr hj h)
  obtain ⟨c1, c2, c3, c4, c5⟩ := e
  exact ⟨c1, c3, fun k i hk hi' hne => c4 k i hk hi' (by omega) hne⟩
