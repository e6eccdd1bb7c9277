/-! States sent, side by side. -/
def V3 (n : Nat) (f : FI) (fl : FL) (gl0 : FL) (r T : Nat) (s : FI × FL) : Prop := RS n f fl s.1 s.2 r ∧ KL gl0 s.2 ∧ (∀ p, p < n → f (7, p, 0) 3 = s.1 (21, 11, 0) p) ∧ (∀ p o, p < n → o < 4 → f (8, p, 0) o = s.1 (21, 33, 0) (6 * o + p)) ∧ (∀ k p o, k < n → p < n → o < 4 → rl f s.1 34 (2 + o) k p (36 * o + 6 * k + p)) ∧ (∀ k p o, k < n → p < n → o < 4 → T ≤ 24 * p + 6 * o + k → sp_64 f k (2 + o) p = false) ∧ (∀ k o, k < n → o < 4 → sp_64 f k (2 + o) k = false)
set_option maxRecDepth 4000 in
theorem V3_le {n : Nat} {f : FI} {fl gl0 : FL} {r T T' : Nat} {s : FI × FL} (h : V3 n f fl gl0 r T s) (hT : T ≤ T') : V3 n f fl gl0 r T' s := ⟨h.1, h.2.1, h.2.2.1, h.2.2.2.1, h.2.2.2.2.1, fun k p o hk hp ho ht => h.2.2.2.2.2.1 k p o hk hp ho (by omega), h.2.2.2.2.2.2⟩
set_option maxRecDepth 4000 in
theorem sta_in {n : Nat} {fl gl0 : FL} {r p o j : Nat} {f : FI} {s : FI × FL} {x : Int32} {g0 : FI} (hn : n ≤ 6) (hr : r < 256) (hp : p < n) (ho : o < 4) (hj : j < n) (hV : V3 n f fl gl0 r (24 * p + 6 * o + j) s) (hL : dl f fl p (4 + o) r x) (hF : sp_94_f g0 p o = sp_120 (nI p) (nI (4 + o)) (nI r) x) :
    V3 n (sp_24_24 p o j f) fl gl0 r (24 * p + 6 * o + (j + 1)) (sp_94_23 g0 p o j s) ∧ dl (sp_24_24 p o j f) fl p (4 + o) r x := by
  rcases Classical.em (j = p) with hji | hji
  · have e1 : sp_24_24 p o j f = f := if_pos (by rw [hji])
    have e2 : sp_94_23 g0 p o j s = s := if_pos (by rw [hji])
    rw [e1, e2]
    exact ⟨V3_le hV (by omega), hL⟩
  obtain ⟨hS, hK, hO, hP, hV2, hV0, hVd⟩ := hV
  have k1 := kp_sp_24_24 p o j f
  have k2 := kp_sp_94_23 g0 p o j s
  have d1 := dlv hS hL hn hp (by omega) hr (Nat.le_of_lt hj) (nI (4 + o))
  have e4 : (4 : Int32) + nI o = nI (4 + o) := nI_add 4 o
  have h00 := hV0 j p o hj hp ho (by omega)
  have key : DV n f fl s.1 s.2 r (sp_24_24 p o j f) (sp_94_23 g0 p o j s).1 (sp_94_23 g0 p o j s).2 p (4 + o) x j (2 + o) 34 (36 * o + 6 * j + p) := by
    have e1 : sp_24_24 p o j f = sp_39 f j (nI (4 + o)) j (2 + o) p := by
      unfold sp_24_24
      rw [if_neg (nI_ne (by omega) (by omega) hji), e4]
    have e2 : sp_94_23 g0 p o j s = (dg s.1 s.2 p j 34 (36 * o + 6 * j + p) (nI (4 + o)) (bI (sp_76 (sp_75 s.1 s.2 p (nI j) (sp_120 (nI p) (nI (4 + o)) (nI r) x)).1 (sp_75 s.1 s.2 p (nI j) (sp_120 (nI p) (nI (4 + o)) (nI r) x)).2 (nI p) (nI (4 + o)))) (sp_120 (nI p) (nI (4 + o)) (nI r) x), (sp_75 s.1 s.2 p (nI j) (sp_120 (nI p) (nI (4 + o)) (nI r) x)).2) := by
      unfold sp_94_23
      rw [if_neg (nI_ne (by omega) (by omega) hji), hF]
      rfl
    rw [e1, e2]
    refine dv_one hS hL hn hp (by omega) hr (Nat.le_of_lt hj) (Or.inr (Or.inr rfl)) ?_ h00
    rw [d1.1]
    exact bI0 _
  obtain ⟨a1, a2, a3, a4, a5, a6⟩ := key
  refine ⟨⟨a1, KL_tr hK a3, fun i hi => ?_, fun q u hq hu => ?_, fun k q u hk hq hu => ?_, fun k q u hk hq hu ht => ?_, fun k u hk hu => ?_⟩, a2⟩
  · rw [k1 (7, i, 0) 3 rfl, k2 (21, 11, 0) i rfl]
    exact hO i hi
  · rw [k1 (8, q, 0) u rfl, k2 (21, 33, 0) _ rfl]
    exact hP q u hq hu
  · rcases Classical.em (k = j ∧ q = p ∧ u = o) with h | h
    · rw [h.1, h.2.1, h.2.2]
      exact a4
    · have b := a5 k (2 + u) q (by omega) (fun z => h ⟨z.1, z.2.2, by omega⟩)
      have b3 := a6 (36 * u + 6 * k + q) (by omega)
      exact rl_mv (hV2 k q u hk hq hu) b.1 b.2 b3.1 b3.2
  · rw [(a5 k (2 + u) q (by omega) (fun z => by omega)).1]
    exact hV0 k q u hk hq hu (by omega)
  · rw [(a5 k (2 + u) k (by omega) (fun z => hji (by omega))).1]
    exact hVd k u hk hu
set_option maxRecDepth 4000 in
theorem V3_send {n : Nat} {f : FI} {fl gl0 : FL} {r T : Nat} {s : FI × FL} (h : V3 n f fl gl0 r T s) {p : Nat} (hp : p < n) (q x : Int32) : V3 n (sp_38 f fl p q x) fl gl0 r T ((sp_72 s.1 p q x).2, s.2) := by
  have k1 := kp_sp_38 f fl p q x
  have k2 := kp_sp_72 s.1 p q x
  refine ⟨RS_send h.1 hp q x, h.2.1, fun i hi => ?_, fun p o hp ho => ?_, fun k p o hk hp ho => ?_, fun k p o hk hp ho ht => ?_, fun k o hk ho => ?_⟩
  · rw [k1 (7, i, 0) 3 rfl]
    exact (h.2.2.1 i hi).trans (k2 (21, 11, 0) i rfl).symm
  · rw [k1 (8, p, 0) o rfl]
    exact (h.2.2.2.1 p o hp ho).trans (k2 (21, 33, 0) _ rfl).symm
  · exact rl_mv (h.2.2.2.2.1 k p o hk hp ho) (h_kp k1 rfl _ _ _) (k1 (10, k, 2 + o) p rfl) (k2 (21, 34, 0) _ rfl) (k2 (21, 35, 0) _ rfl)
  · rw [h_kp k1 rfl]
    exact h.2.2.2.2.2.1 k p o hk hp ho ht
  · rw [h_kp k1 rfl]
    exact h.2.2.2.2.2.2 k o hk ho
set_option maxRecDepth 4000 in
theorem sta_one {n : Nat} {fl gl0 : FL} {r p o : Nat} {f : FI} {s : FI × FL} (hn : n ≤ 6) (hr : r < 256) (hp : p < n) (ho : o < 4) (hV : V3 n f fl gl0 r (24 * p + 6 * o) s) :
    V3 n (sp_24 n f fl p o) fl gl0 r (24 * p + 6 * (o + 1)) (sp_94 n s.1 s.2 p o) := by
  have e4 : (4 : Int32) + nI o = nI (4 + o) := nI_add 4 o
  have hF : sp_94_f s.1 p o = sp_120 (nI p) (nI (4 + o)) (nI r) (f (8, p, 0) o) := by
    rw [hV.2.2.2.1 p o hp ho]
    exact fr_72 hV.1 p _ _
  unfold sp_24 sp_94
  rw [e4, ← hV.2.2.2.1 p o hp ho]
  have e := rel_it (N := n) (F := sp_24_24 p o) (G := sp_94_23 s.1 p o) (R := fun j F S => V3 n F fl gl0 r (24 * p + 6 * o + j) S ∧ dl F fl p (4 + o) r (f (8, p, 0) o)) (s0 := sp_38 f fl p (nI (4 + o)) (f (8, p, 0) o)) (t0 := ((sp_72 s.1 p (nI (4 + o)) (f (8, p, 0) o)).2, s.2)) ⟨V3_send hV hp _ _, dl_38 hV.1 p (4 + o) _⟩ (fun j F S hj h => sta_in hn hr hp ho hj h.1 h.2 hF)
  exact V3_le e.1 (by omega)
set_option maxRecDepth 4000 in
theorem sta_out {n : Nat} {fl gl0 : FL} {r p : Nat} {f : FI} {s : FI × FL} (hn : n ≤ 6) (hr : r < 256) (hp : p < n) (hV : V3 n f fl gl0 r (24 * p) s) :
    V3 n (sp_23_2 n fl p f) fl gl0 r (24 * (p + 1)) (sp_92_70 n p s) := by
  unfold sp_23_2 sp_92_70
  rw [← hV.2.2.1 p hp]
  rcases Classical.em (f (7, p, 0) 3 = 0) with z | z
  · rw [if_pos z]
    have e := rel_it (N := 4) (F := sp_23_13 n fl p) (G := sp_92_80 n p) (R := fun o F S => V3 n F fl gl0 r (24 * p + 6 * o) S ∧ F (7, p, 0) 3 = 0) (s0 := f) (t0 := s) ⟨hV, z⟩ (fun o F S ho h => by
      have e1 : sp_23_13 n fl p o F = sp_24 n F fl p o := if_pos h.2
      refine ⟨?_, (kp_sp_23_13 n fl p o F (7, p, 0) 3 rfl).trans h.2⟩
      rw [e1]
      exact sta_one hn hr hp ho h.1)
    exact V3_le e.1 (by omega)
  · rw [if_neg z]
    have e : lq_it 4 (sp_23_13 n fl p) f = f := inv_it (N := 4) (F := sp_23_13 n fl p) (s0 := f) (R := fun _ (F : FI) => F = f) rfl (fun o F ho h => by
      rw [h]
      exact if_neg z)
    rw [e]
    exact V3_le hV (by omega)
set_option maxRecDepth 4000 in
theorem c_93 {n a p : Nat} {g g' : FI} {L : List Nat} (k : kp L g g') (e : (L.contains 2112 || L.contains 2113 || L.contains 2114 || L.contains 2115) = false) : sp_93 n g' a p = sp_93 n g a p := by
  simp only [Bool.or_eq_false_iff] at e
  have h : sp_93_32 g' a p = sp_93_32 g a p := by
    funext i s
    unfold sp_93_32
    rw [k (21, 14, 0) _ e.1.2, k (21, 15, 0) _ e.2]
  unfold sp_93
  rw [h, k (21, 12, 0) _ e.1.1.1, k (21, 13, 0) _ e.1.1.2]
set_option maxRecDepth 4000 in
theorem own_92 {n : Nat} {g : FI} (hn : n ≤ 6) : kp [2133] g (lq_it 4 (sp_92_2 n) g) ∧ ∀ o p, o < 4 → p < n → (lq_it 4 (sp_92_2 n) g) (21, 33, 0) (6 * o + p) = sp_93 n g p o := by
  refine inv_it (N := 4) (F := sp_92_2 n) (s0 := g) (R := fun i (s : FI) => kp [2133] g s ∧ ∀ o p, o < i → p < n → s (21, 33, 0) (6 * o + p) = sp_93 n g p o) ⟨kp_re _ _, fun o p ho => absurd ho (Nat.not_lt_zero o)⟩ ?_
  intro i s hi hs
  have e := inv_it (N := n) (F := sp_92_9 n i) (s0 := s) (R := fun m (t : FI) => kp [2133] g t ∧ (∀ o p, o < i → p < n → t (21, 33, 0) (6 * o + p) = sp_93 n g p o) ∧ ∀ p, p < m → t (21, 33, 0) (6 * i + p) = sp_93 n g p i) ⟨hs.1, hs.2, fun p hp => absurd hp (Nat.not_lt_zero p)⟩ (fun m t hm ht => by
    obtain ⟨hk, h1, h2⟩ := ht
    unfold sp_92_9
    rw [c_93 hk rfl]
    refine ⟨kp_up hk rfl, fun o p ho hp => ?_, fun p hp => ?_⟩
    · rw [up_ne _ _ (fun z => by omega)]
      exact h1 o p ho hp
    · rcases Classical.em (p = m) with e | e
      · rw [e, up_eq]
      · rw [up_ne _ _ (fun z => by omega)]
        exact h2 p (by omega))
  refine ⟨e.1, fun o p ho hp => ?_⟩
  rcases Classical.em (o = i) with h | h
  · rw [h]
    exact e.2.2 p hp
  · exact e.2.1 o p (by omega) hp
set_option maxRecDepth 4000 in
theorem clr_92 (g : FI) (J : Nat) (hJ : J < 144) : lq_it 144 sp_92_48 g (21, 34, 0) J = 0 := by
  have e := inv_it (N := 144) (F := sp_92_48) (R := fun i (s : FI) => ∀ J, J < i → s (21, 34, 0) J = 0) (s0 := g) (fun J h => absurd h (by omega)) (fun i s hi h J hJ => by
    unfold sp_92_48
    rcases Classical.em (J = i) with e | e
    · rw [e, up_eq]
    · rw [up_ne _ _ (fun z => e z.2)]
      exact h J (by omega))
  exact e J hJ
set_option maxRecDepth 4000 in
/-- after the states were sent -/
theorem sta_all {n : Nat} {fl gl : FL} {r : Nat} {f g : FI} (hn : n ≤ 6) (hr : r < 256) (hS : RS n f fl g gl r) (hO : ∀ p, p < n → f (7, p, 0) 3 = g (21, 11, 0) p) (hY : ∀ a, a < n → SY n a f g) (h0 : ∀ k p o, k < n → p < n → o < 4 → sp_64 f k (2 + o) p = false) :
    V3 n (sp_23 n f fl) fl gl r 144 (lq_it n (sp_92_70 n) ((lq_it 144 sp_92_48 (lq_it 4 (sp_92_2 n) g)), gl)) := by
  obtain ⟨k1, ow⟩ := own_92 (g := g) hn
  have k2 : kp [2134] (lq_it 4 (sp_92_2 n) g) (lq_it 144 sp_92_48 (lq_it 4 (sp_92_2 n) g)) := kp_it (p := fun (s : FI) => s) (kp_re _ _) (fun i s => kp_sp_92_48 i s)
  have k3 : kp [2133, 2134] g (lq_it 144 sp_92_48 (lq_it 4 (sp_92_2 n) g)) := kp_tr (kp_sub k1 rfl) rfl k2
  have e := rel_it (N := n) (F := sp_23_2 n fl) (G := sp_92_70 n) (R := fun j F S => V3 n F fl gl r (24 * j) S) (s0 := f) (t0 := ((lq_it 144 sp_92_48 (lq_it 4 (sp_92_2 n) g)), gl)) ⟨RS_kg hS k3 rfl, fun _ _ _ => rfl, fun p hp => ?_, fun p o hp ho => ?_, fun k p o hk hp ho => ?_, fun k p o hk hp ho _ => h0 k p o hk hp ho, fun k o hk ho => h0 k k o hk hk ho⟩ (fun j F S hj h => sta_out hn hr hj h)
  · exact V3_le e (by omega)
  · exact (hO p hp).trans (k3 (21, 11, 0) p rfl).symm
  · show _ = (lq_it 144 sp_92_48 (lq_it 4 (sp_92_2 n) g)) (21, 33, 0) (6 * o + p)
    rw [k2 (21, 33, 0) _ rfl, ow o p ho hp]
    exact (p_93 hn (hY p hp) ho).symm
  · unfold rl
    rw [h0 k p o hk hp ho]
    exact ⟨clr_92 _ _ (by omega), fun z => by cases z⟩
