/-! The relays, side by side. -/
set_option maxRecDepth 4000 in
theorem dg_at {g : FI} {gl : FL} {p k G I : Nat} {q' ok : Int32} {F : Int64} {a : xm_I} {j : Nat} (h4 : ¬ a = (21, 24, 0)) (ha : ¬ a = (21, G, 0)) (hb : ¬ a = (21, G + 1, 0)) (hc : ¬ (a = (20, 0, 0) ∧ j = 25)) : dg g gl p k G I q' ok F a j = g a j := by
  unfold dg sp_79
  rw [up_ne _ _ (fun z => h4 z.1)]
  exact dg_mid ha hb hc
set_option maxRecDepth 4000 in
/-- a delivery that changes nothing at the receiver, and is not rejected -/
theorem dv_none {n : Nat} {f : FI} {fl : FL} {g : FI} {gl : FL} {r p m k : Nat} {x q' ok : Int32} {G c I : Nat} (hS : RS n f fl g gl r) (hL : dl f fl p m r x) (hn : n ≤ 6) (hp : p < n) (hm : m < 16) (hr : r < 256) (hk : k ≤ n) (hG : G = 27 ∨ G = 29 ∨ G = 34) (hok : ¬ ok = 0) (hq : sp_40 f q' = false) (h0 : sp_64 f k c p = false) :
    DV n f fl g gl r f (dg g gl p k G I q' ok (sp_120 (nI p) (nI m) (nI r) x)) (sp_75 g gl p (nI k) (sp_120 (nI p) (nI m) (nI r) x)).2 p m x k c G I := by
  have hD := dlv hS hL hn hp hm hr hk q'
  refine ⟨⟨fun i hi => ?_, fun i hi => ?_, hS.2.2.1, ?_, ?_, fun i hi => ?_⟩, hL, KL_75 _ _ _ _ _, ?_, fun _ _ _ _ _ => ⟨rfl, rfl⟩, fun J hJ => dg_ne hG J hJ⟩
  · rw [dg_at (by simp) (by simp; omega) (by simp; omega) (by simp)]
    exact hS.1 i hi
  · rw [KL_75 _ _ _ _ _ _ _ (by simp)]
    exact hS.2.1 i hi
  · rw [dg_at (by simp) (by simp) (by simp) (by simp)]
    exact hS.2.2.2.1
  · rw [dg_at (by simp) (by simp) (by simp) (by simp)]
    exact hS.2.2.2.2.1
  · have e : dg g gl p k G I q' ok (sp_120 (nI p) (nI m) (nI r) x) (21, 24, 0) i = g (21, 24, 0) i := by
      unfold dg sp_79
      rw [if_neg hok, ite_self, up_same]
      exact dg_mid (by simp; omega) (by simp; omega) (by simp)
    rw [e]
    exact hS.2.2.2.2.2 i hi
  · unfold rl
    rw [(dg_got hG).1, hD.1, hq, h0]
    exact ⟨rfl, fun z => by cases z⟩
set_option maxRecDepth 4000 in
theorem c_76 {g g' : FI} {gl : FL} {x q : Int32} (h1 : g' (20, 0, 0) 25 = g (20, 0, 0) 25) (h2 : g' (20, 0, 0) 3 = g (20, 0, 0) 3) : sp_76 g' gl x q = sp_76 g gl x q := by
  unfold sp_76
  rw [h1, h2]
def V2 (n : Nat) (f : FI) (fl : FL) (gl0 : FL) (r T : Nat) (s : FI × FL) : Prop := RS n f fl s.1 s.2 r ∧ KL gl0 s.2 ∧ (∀ p, p < n → f (7, p, 0) 3 = s.1 (21, 11, 0) p) ∧ (∀ k i, k < n → i < n → ¬ i = k → rl f s.1 27 0 k i (6 * k + i)) ∧ (∀ k p o, k < n → p < n → o < n → rl f s.1 29 (6 + o) k p (36 * k + 6 * p + o)) ∧ (∀ k p o, k < n → p < n → o < n → T ≤ 36 * p + 6 * o + k → sp_64 f k (6 + o) p = false) ∧ (∀ k o, k < n → o < n → sp_64 f k (6 + o) k = false)
set_option maxRecDepth 4000 in
theorem V2_le {n : Nat} {f : FI} {fl gl0 : FL} {r T T' : Nat} {s : FI × FL} (h : V2 n f fl gl0 r T s) (hT : T ≤ T') : V2 n f fl gl0 r T' s := ⟨h.1, h.2.1, h.2.2.1, h.2.2.2.1, h.2.2.2.2.1, fun k p o hk hp ho ht => h.2.2.2.2.2.1 k p o hk hp ho (by omega), h.2.2.2.2.2.2⟩
set_option maxRecDepth 4000 in
theorem tell_ne {f : FI} {o : Nat} (ho : o < 6) (h : sp_40 f (1 : Int32) = true) : sp_40 f (nI (8 + o)) = false := by
  unfold sp_40 at h ⊢
  split at h
  · cases h
  split at h
  · cases h
  split at h
  · next a b c =>
    rw [if_neg a, if_neg b, c, if_neg (show ¬ (1 : Int32) = nI (8 + o) from nI_ne (a := 1) (by omega) (by omega) (by omega))]
  · cases h
set_option maxRecDepth 4000 in
theorem rel_in {n : Nat} {fl gl0 : FL} {r p o j m : Nat} {f : FI} {s : FI × FL} {x : Int32} {g0 : FI} (hn : n ≤ 6) (hr : r < 256) (hp : p < n) (ho : o < n) (hj : j < n) (hm : m < 16) (hV : V2 n f fl gl0 r (36 * p + 6 * o + j) s) (hL : dl f fl p m r x) (hF : sp_81_f g0 p o = sp_120 (nI p) (nI m) (nI r) x) :
    V2 n (sp_18_51 p o j f) fl gl0 r (36 * p + 6 * o + (j + 1)) (sp_81_51 g0 p o j s) ∧ dl (sp_18_51 p o j f) fl p m r x := by
  rcases Classical.em (j = p) with hji | hji
  · have e1 : sp_18_51 p o j f = f := if_pos (by rw [hji])
    have e2 : sp_81_51 g0 p o j s = s := if_pos (by rw [hji])
    rw [e1, e2]
    exact ⟨V2_le hV (by omega), hL⟩
  obtain ⟨hS, hK, hO, hV1, hV2, hV0, hVd⟩ := hV
  have k1 := kp_sp_18_51 p o j f
  have k2 := kp_sp_81_51 g0 p o j s
  have d1 := dlv hS hL hn hp hm hr (Nat.le_of_lt hj) (nI (8 + o))
  have d2 := dlv hS hL hn hp hm hr (Nat.le_of_lt hj) (1 : Int32)
  have e8 : (8 : Int32) + nI o = nI (8 + o) := nI_add 8 o
  have h00 := hV0 j p o hj hp ho (by omega)
  have key : DV n f fl s.1 s.2 r (sp_18_51 p o j f) (sp_81_51 g0 p o j s).1 (sp_81_51 g0 p o j s).2 p m x j (6 + o) 29 (36 * j + 6 * p + o) := by
    have e1 : sp_18_51 p o j f = sp_42 f j o j (6 + o) p := if_neg (nI_ne (by omega) (by omega) hji)
    have e2 : sp_81_51 g0 p o j s = (dg s.1 s.2 p j 29 (36 * j + 6 * p + o) (nI (8 + o)) (bI (if bI (sp_40 f (nI (8 + o))) = 0 then (if bI (sp_40 f (1 : Int32)) = 0 then false else (if sp_41 f (nI j) = nI o then true else false)) else true)) (sp_120 (nI p) (nI m) (nI r) x), (sp_75 s.1 s.2 p (nI j) (sp_120 (nI p) (nI m) (nI r) x)).2) := by
      unfold sp_81_51
      rw [if_neg (nI_ne (by omega) (by omega) hji), hF, c_76 (g := (sp_75 s.1 s.2 p (nI j) (sp_120 (nI p) (nI m) (nI r) x)).1) (q := (1 : Int32)) (by rw [up_ne _ _ (by simp), up_ne _ _ (by simp)]) (by rw [up_ne _ _ (by simp), up_ne _ _ (by simp)]), ← d1.1, ← d2.1, ← d1.2]
      rfl
    rw [e1, e2]
    unfold sp_42
    rw [e8]
    rcases Classical.em (sp_40 f (1 : Int32) = true ∧ sp_41 f (nI j) = nI o) with hT | hT
    · rw [tell_ne (by omega) hT.1, hT.1, if_pos hT.2, if_neg (show ¬ bI true = 0 by decide), if_neg (show ¬ bI true = 0 by decide), if_pos (show bI false = 0 from rfl)]
      exact dv_none hS hL hn hp hm hr (Nat.le_of_lt hj) (Or.inr (Or.inl rfl)) (by decide) (tell_ne (by omega) hT.1) h00
    · have eT : (if bI (sp_40 f (1 : Int32)) = 0 then false else (if sp_41 f (nI j) = nI o then true else false)) = false := by
        rcases Bool.eq_false_or_eq_true (sp_40 f (1 : Int32)) with h | h
        · rw [h, if_neg (show ¬ bI true = 0 by decide), if_neg (fun z => hT ⟨h, z⟩)]
        · rw [h, if_pos (show bI false = 0 from rfl)]
      rw [eT, if_pos (show bI false = 0 from rfl)]
      refine dv_one hS hL hn hp hm hr (Nat.le_of_lt hj) (Or.inr (Or.inl rfl)) ?_ h00
      rcases Bool.eq_false_or_eq_true (sp_40 f (nI (8 + o))) with h | h
      · rw [h]
        decide
      · rw [h]
        decide
  obtain ⟨a1, a2, a3, a4, a5, a6⟩ := key
  refine ⟨⟨a1, KL_tr hK a3, fun i hi => ?_, fun k i hk hi hne => ?_, fun k q u hk hq hu => ?_, fun k q u hk hq hu ht => ?_, fun k u hk hu => ?_⟩, a2⟩
  · rw [k1 (7, i, 0) 3 rfl, k2 (21, 11, 0) i rfl]
    exact hO i hi
  · have b := a5 k 0 i (by omega) (fun z => by omega)
    exact rl_mv (hV1 k i hk hi hne) b.1 b.2 (k2 (21, 27, 0) _ rfl) (k2 (21, 28, 0) _ rfl)
  · rcases Classical.em (k = j ∧ q = p ∧ u = o) with h | h
    · rw [h.1, h.2.1, h.2.2]
      exact a4
    · have b := a5 k (6 + u) q (by omega) (fun z => h ⟨z.1, z.2.2, by omega⟩)
      have b3 := a6 (36 * k + 6 * q + u) (by omega)
      exact rl_mv (hV2 k q u hk hq hu) b.1 b.2 b3.1 b3.2
  · rw [(a5 k (6 + u) q (by omega) (fun z => by omega)).1]
    exact hV0 k q u hk hq hu (by omega)
  · rw [(a5 k (6 + u) k (by omega) (fun z => hji (by omega))).1]
    exact hVd k u hk hu
set_option maxRecDepth 4000 in
theorem V2_send {n : Nat} {f : FI} {fl gl0 : FL} {r T : Nat} {s : FI × FL} (h : V2 n f fl gl0 r T s) {p : Nat} (hp : p < n) (q x : Int32) : V2 n (sp_38 f fl p q x) fl gl0 r T ((sp_72 s.1 p q x).2, s.2) := by
  have k1 := kp_sp_38 f fl p q x
  have k2 := kp_sp_72 s.1 p q x
  refine ⟨RS_send h.1 hp q x, h.2.1, fun i hi => ?_, fun k i hk hi hne => ?_, fun k p o hk hp ho => ?_, fun k p o hk hp ho ht => ?_, fun k o hk ho => ?_⟩
  · rw [k1 (7, i, 0) 3 rfl]
    exact (h.2.2.1 i hi).trans (k2 (21, 11, 0) i rfl).symm
  · exact rl_mv (h.2.2.2.1 k i hk hi hne) (h_kp k1 rfl _ _ _) (k1 (10, k, 0) i rfl) (k2 (21, 27, 0) _ rfl) (k2 (21, 28, 0) _ rfl)
  · exact rl_mv (h.2.2.2.2.1 k p o hk hp ho) (h_kp k1 rfl _ _ _) (k1 (10, k, 6 + o) p rfl) (k2 (21, 29, 0) _ rfl) (k2 (21, 30, 0) _ rfl)
  · rw [h_kp k1 rfl]
    exact h.2.2.2.2.2.1 k p o hk hp ho ht
  · rw [h_kp k1 rfl]
    exact h.2.2.2.2.2.2 k o hk ho
set_option maxRecDepth 4000 in
theorem rel_one {n : Nat} {fl gl0 : FL} {r p o : Nat} {f : FI} {s : FI × FL} (hn : n ≤ 6) (hr : r < 256) (hp : p < n) (ho : o < n) (hop : ¬ o = p) (hV : V2 n f fl gl0 r (36 * p + 6 * o) s) :
    V2 n (sp_18 n f fl p o) fl gl0 r (36 * p + 6 * (o + 1)) (sp_81 n s.1 s.2 p o) := by
  have hrl := hV.2.2.2.1 p o hp ho hop
  have e8 : (8 : Int32) + nI o = nI (8 + o) := nI_add 8 o
  have fin : ∀ (m : Nat) (x : Int32), m < 16 → sp_81_f s.1 p o = sp_120 (nI p) (nI m) (nI r) x → V2 n (lq_it n (sp_18_51 p o) (sp_38 f fl p (nI m) x)) fl gl0 r (36 * p + 6 * (o + 1)) (lq_it n (sp_81_51 s.1 p o) ((sp_72 s.1 p (nI m) x).2, s.2)) := by
    intro m x hm hF
    have e := rel_it (N := n) (F := sp_18_51 p o) (G := sp_81_51 s.1 p o) (R := fun j F S => V2 n F fl gl0 r (36 * p + 6 * o + j) S ∧ dl F fl p m r x) (s0 := sp_38 f fl p (nI m) x) (t0 := ((sp_72 s.1 p (nI m) x).2, s.2)) ⟨V2_send hV hp _ _, dl_38 hV.1 p m x⟩ (fun j F S hj h => rel_in hn hr hp ho hj hm h.1 h.2 hF)
    exact V2_le e.1 (by omega)
  unfold sp_18 sp_81
  rcases Bool.eq_false_or_eq_true (sp_64 f p 0 o) with h | h
  · have hg : ¬ s.1 (21, 27, 0) (6 * p + o) = 0 := by rw [hrl.1, h]; decide
    rw [h, if_neg (show ¬ bI true = 0 by decide), if_neg hg, e8]
    have hv : sp_65 f p 0 o = s.1 (21, 28, 0) (6 * p + o) := hrl.2 h
    rw [hv]
    refine fin (8 + o) _ (by omega) ?_
    unfold sp_81_f
    rw [if_neg hg]
    exact fr_72 hV.1 p _ _
  · have hg : s.1 (21, 27, 0) (6 * p + o) = 0 := by rw [hrl.1, h]; rfl
    rw [h, if_pos (show bI false = 0 from rfl), if_pos hg]
    refine fin 1 _ (by omega) ?_
    unfold sp_81_f
    rw [if_pos hg]
    exact fr_72 hV.1 p _ _
set_option maxRecDepth 4000 in
theorem rel_mid {n : Nat} {fl gl0 : FL} {r p o : Nat} {f : FI} {s : FI × FL} (hn : n ≤ 6) (hr : r < 256) (hp : p < n) (ho : o < n) (hV : V2 n f fl gl0 r (36 * p + 6 * o) s) :
    V2 n (sp_17_13 n fl p o f) fl gl0 r (36 * p + 6 * (o + 1)) (sp_80_34 n p o s) := by
  have hO := hV.2.2.1 p hp
  unfold sp_17_13 sp_80_34
  rw [← hO]
  rcases Classical.em (o = p) with h | h
  · rw [if_pos (by rw [h]), if_pos (show nI o = nI p by rw [h]), ite_self]
    exact V2_le hV (by omega)
  · rw [if_neg (nI_ne (by omega) (by omega) h), if_neg (nI_ne (by omega) (by omega) h)]
    rcases Classical.em (f (7, p, 0) 3 = 0) with h3 | h3
    · rw [if_pos h3, if_pos h3]
      exact rel_one hn hr hp ho h hV
    · rw [if_neg h3, if_neg h3]
      exact V2_le hV (by omega)
set_option maxRecDepth 4000 in
theorem rel_out {n : Nat} {fl gl0 : FL} {r p : Nat} {f : FI} {s : FI × FL} (hn : n ≤ 6) (hr : r < 256) (hp : p < n) (hV : V2 n f fl gl0 r (36 * p) s) :
    V2 n (sp_17_2 n fl p f) fl gl0 r (36 * (p + 1)) (sp_80_24 n p s) := by
  have e := rel_it (N := n) (F := sp_17_13 n fl p) (G := sp_80_34 n p) (R := fun o F S => V2 n F fl gl0 r (36 * p + 6 * o) S) (s0 := f) (t0 := s) hV (fun o F S ho h => rel_mid hn hr hp ho h)
  exact V2_le e (by omega)
set_option maxRecDepth 4000 in
theorem clr_80 (g : FI) (J : Nat) (hJ : J < 216) : lq_it 216 sp_80_2 g (21, 29, 0) J = 0 := by
  have e := inv_it (N := 216) (F := sp_80_2) (R := fun i (s : FI) => ∀ J, J < i → s (21, 29, 0) J = 0) (s0 := g) (fun J h => absurd h (by omega)) (fun i s hi h J hJ => by
    unfold sp_80_2
    rcases Classical.em (J = i) with e | e
    · rw [e, up_eq]
    · rw [up_ne _ _ (fun z => e z.2)]
      exact h J (by omega))
  exact e J hJ
set_option maxRecDepth 4000 in
/-- after the relays -/
theorem rel_all {n : Nat} {fl gl : FL} {r : Nat} {f g : FI} (hn : n ≤ 6) (hr : r < 256) (hS : RS n f fl g gl r) (hO : ∀ p, p < n → f (7, p, 0) 3 = g (21, 11, 0) p) (hV : ∀ k i, k < n → i < n → ¬ i = k → rl f g 27 0 k i (6 * k + i)) (h0 : ∀ k p o, k < n → p < n → o < n → sp_64 f k (6 + o) p = false) :
    V2 n (sp_17 n f fl) fl gl r 216 (sp_80 n g gl) := by
  have k2 : kp [2129] g (lq_it 216 sp_80_2 g) := kp_it (p := fun (s : FI) => s) (kp_re _ _) (fun i s => kp_sp_80_2 i s)
  have hS' : RS n f fl (lq_it 216 sp_80_2 g) gl r := by
    refine ⟨fun p hp => ?_, hS.2.1, hS.2.2.1, ?_, ?_, fun p hp => ?_⟩
    · rw [k2 (21, 9, 0) p rfl]
      exact hS.1 p hp
    · rw [k2 (20, 0, 0) 3 rfl]
      exact hS.2.2.2.1
    · rw [k2 (20, 0, 0) 23 rfl]
      exact hS.2.2.2.2.1
    · rw [k2 (21, 24, 0) p rfl]
      exact hS.2.2.2.2.2 p hp
  have e := rel_it (N := n) (F := sp_17_2 n fl) (G := sp_80_24 n) (R := fun j F S => V2 n F fl gl r (36 * j) S) (s0 := f) (t0 := ((lq_it 216 sp_80_2 g), gl)) ⟨hS', fun _ _ _ => rfl, fun p hp => ?_, fun k i hk hi hne => ?_, fun k p o hk hp ho => ?_, fun k p o hk hp ho _ => h0 k p o hk hp ho, fun k o hk ho => h0 k k o hk hk ho⟩ (fun j F S hj h => rel_out hn hr hj h)
  · exact V2_le e (by omega)
  · exact (hO p hp).trans (k2 (21, 11, 0) p rfl).symm
  · exact rl_mv (hV k i hk hi hne) rfl rfl (k2 (21, 27, 0) _ rfl) (k2 (21, 28, 0) _ rfl)
  · unfold rl
    rw [h0 k p o hk hp ho]
    exact ⟨clr_80 g _ (by omega), fun z => by cases z⟩
