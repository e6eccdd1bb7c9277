/-! Sending and delivering, the class beside the reference. -/
def RS (n : Nat) (f : FI) (fl : FL) (g : FI) (gl : FL) (r : Nat) : Prop := (∀ p, p < n → f (3, 0, 0) p = g (21, 9, 0) p) ∧ (∀ p, p < n → fl (4, 0, 0) p = gl (21, 10, 0) p) ∧ f (2, 0, 0) 4 = nI r ∧ (g (20, 0, 0) 3) - (g (20, 0, 0) 3) / (256 : Int32) * (256 : Int32) = nI r ∧ f (2, 0, 0) 3 = g (20, 0, 0) 23 ∧ (∀ p, p ≤ n → f (5, 0, 0) p = g (21, 24, 0) p)
def KL (gl gl' : FL) : Prop := ∀ a k, ¬ (a = (20, 0, 0) ∧ k = 26) → gl' a k = gl a k
theorem KL_tr {a b c : FL} (h : KL a b) (h' : KL b c) : KL a c := fun x k hk => (h' x k hk).trans (h x k hk)
theorem fr_72 {n : Nat} {f : FI} {fl : FL} {g : FI} {gl : FL} {r : Nat} (hS : RS n f fl g gl r) (p : Nat) (q x : Int32) : (sp_72 g p q x).1 = sp_120 (nI p) q (nI r) x := by
  unfold sp_72
  show sp_73 (nI p) q _ x = _
  rw [hS.2.2.2.1, frame_eq]
theorem RS_send {n : Nat} {f : FI} {fl : FL} {g : FI} {gl : FL} {r : Nat} (hS : RS n f fl g gl r) {p : Nat} (hp : p < n) (q x : Int32) : RS n (sp_38 f fl p q x) fl (sp_72 g p q x).2 gl r := by
  have k1 := kp_sp_38 f fl p q x
  have k2 := kp_sp_72 g p q x
  refine ⟨fun i hi => ?_, hS.2.1, ?_, ?_, ?_, fun i hi => ?_⟩
  · rw [k1 (3, 0, 0) i rfl, k2 (21, 9, 0) i rfl]
    exact hS.1 i hi
  · rw [k1 (2, 0, 0) 4 rfl]
    exact hS.2.2.1
  · rw [k2 (20, 0, 0) 3 rfl]
    exact hS.2.2.2.1
  · have e1 : sp_38 f fl p q x (2, 0, 0) 3 = if (f (3, 0, 0) p) = (4 : Int32) then ((f (2, 0, 0) 3) + (1 : Int32)) else (f (2, 0, 0) 3) := by
      unfold sp_38
      simp [xm_up]
    have e2 : (sp_72 g p q x).2 (20, 0, 0) 23 = if (g (21, 9, 0) p) = (4 : Int32) then ((g (20, 0, 0) 23) + (1 : Int32)) else (g (20, 0, 0) 23) := by
      unfold sp_72
      simp [xm_up]
    rw [e1, e2, hS.1 p hp, hS.2.2.2.2.1]
  · rw [k1 (5, 0, 0) i rfl, k2 (21, 24, 0) i rfl]
    exact hS.2.2.2.2.2 i hi
/-- the line of the class, with the fault and the argument of the sender -/
def dl (f : FI) (fl : FL) (p m r : Nat) (x : Int32) : Prop := dL f p (nI m) (nI r) x (f (3, 0, 0) p) (fl (4, 0, 0) p)
theorem dl_38 {n : Nat} {f : FI} {fl : FL} {g : FI} {gl : FL} {r : Nat} (hS : RS n f fl g gl r) (p m : Nat) (x : Int32) : dl (sp_38 f fl p (nI m) x) fl p m r x := by
  have h := dL_38 f fl p (nI m) x
  rw [hS.2.2.1] at h
  unfold dl
  rw [kp_sp_38 f fl p (nI m) x (3, 0, 0) p rfl]
  exact h
theorem dl_kp {f g : FI} {fl : FL} {p m r : Nat} {x : Int32} {L : List Nat} (h : dl f fl p m r x) (k : kp L f g) (e : (L.contains 205 || L.contains 206 || L.contains 207 || L.contains 208 || L.contains 209 || L.contains 210) = false) (e3 : L.contains 300 = false) : dl g fl p m r x := by
  unfold dl at *
  rw [k (3, 0, 0) p e3]
  exact dL_kp h k e
/-- a word that is carried is due, and holds the same, on both sides -/
theorem dlv {n : Nat} {f : FI} {fl : FL} {g : FI} {gl : FL} {r p m k : Nat} {x : Int32} (hS : RS n f fl g gl r) (hL : dl f fl p m r x) (hn : n ≤ 6) (hp : p < n) (hm : m < 16) (hr : r < 256) (hk : k ≤ n) (q' : Int32) :
    sp_76 (sp_75 g gl p (nI k) (sp_120 (nI p) (nI m) (nI r) x)).1 (sp_75 g gl p (nI k) (sp_120 (nI p) (nI m) (nI r) x)).2 (nI p) q' = sp_40 f q' ∧ sp_78 (sp_75 g gl p (nI k) (sp_120 (nI p) (nI m) (nI r) x)).2 = sp_41 f (nI k) := by
  unfold dl at hL
  rw [hS.1 p hp, hS.2.1 p hp] at hL
  refine due_eq (by omega) hm hr (by omega) hL ?_ ?_ ?_
  · rw [car_fi, up_eq]
  · rw [car_fi, up_ne _ _ (by simp)]
    exact hS.2.2.2.1
  · exact car_w _ _ _ _ _
theorem h_39 (f : FI) (k : Nat) (q' : Int32) (i c p i' c' : Nat) (hp : p < 32) {j : Nat} (hj : j < 32) : sp_64 (sp_39 f k q' i c p) i' c' j = if (i' = i ∧ c' = c ∧ j = p) ∧ sp_40 f q' = true then true else sp_64 f i' c' j := by
  unfold sp_39
  rcases Bool.eq_false_or_eq_true (sp_40 f q') with h | h
  · rw [if_neg (fun z => by rw [(bI0 _).mp z] at h; cases h), h_63 _ _ _ _ _ _ _ hp hj]
    rcases Classical.em (i' = i ∧ c' = c ∧ j = p) with h2 | h2
    · rw [if_pos h2, if_pos ⟨h2, h⟩]
    · rw [if_neg h2, if_neg (fun z => h2 z.1)]
  · rw [if_pos ((bI0 _).mpr h), if_neg (show ¬ ((i' = i ∧ c' = c ∧ j = p) ∧ sp_40 f q' = true) from fun z => by rw [z.2] at h; cases h)]
    split
    · rfl
    · exact h_kp (kp_up (kp_re [500] f) rfl) rfl _ _ _
theorem v_39 (f : FI) (k : Nat) (q' : Int32) (i c p i' c' j : Nat) : (sp_39 f k q' i c p) (10, i', c') j = if (i' = i ∧ c' = c ∧ j = p) ∧ sp_40 f q' = true then sp_41 f (nI k) else f (10, i', c') j := by
  unfold sp_39
  rcases Bool.eq_false_or_eq_true (sp_40 f q') with h | h
  · rw [if_neg (fun z => by rw [(bI0 _).mp z] at h; cases h), v_63]
    rcases Classical.em (i' = i ∧ c' = c ∧ j = p) with h2 | h2
    · rw [if_pos h2, if_pos ⟨h2, h⟩]
    · rw [if_neg h2, if_neg (fun z => h2 z.1)]
  · rw [if_pos ((bI0 _).mpr h), if_neg (show ¬ ((i' = i ∧ c' = c ∧ j = p) ∧ sp_40 f q' = true) from fun z => by rw [z.2] at h; cases h)]
    split
    · rfl
    · rw [up_ne _ _ (by simp)]
theorem RS_dlv {n : Nat} {f : FI} {fl : FL} {g G : FI} {gl GL : FL} {r k i c p : Nat} {q' good : Int32} (hS : RS n f fl g gl r) (h6 : f (2, 0, 0) 6 = G (20, 0, 0) 25) (G9 : ∀ p, G (21, 9, 0) p = g (21, 9, 0) p) (G3 : G (20, 0, 0) 3 = g (20, 0, 0) 3) (G23 : G (20, 0, 0) 23 = g (20, 0, 0) 23) (G24 : ∀ p, G (21, 24, 0) p = g (21, 24, 0) p) (hGL : ∀ p, GL (21, 10, 0) p = gl (21, 10, 0) p) (hgood : good = 0 ↔ sp_40 f q' = false) (hk : k ≤ n) :
    RS n (sp_39 f k q' i c p) fl (sp_79 G k good) GL r := by
  have k1 := kp_sp_39 f k q' i c p
  have k2 := kp_sp_79 G k good
  refine ⟨fun j hj => ?_, fun j hj => ?_, ?_, ?_, ?_, fun j hj => ?_⟩
  · rw [k1 (3, 0, 0) j rfl, k2 (21, 9, 0) j rfl, G9]
    exact hS.1 j hj
  · rw [hGL]
    exact hS.2.1 j hj
  · rw [k1 (2, 0, 0) 4 rfl]
    exact hS.2.2.1
  · rw [k2 (20, 0, 0) 3 rfl, G3]
    exact hS.2.2.2.1
  · rw [k1 (2, 0, 0) 3 rfl, k2 (20, 0, 0) 23 rfl, G23]
    exact hS.2.2.2.2.1
  · have e := hS.2.2.2.2.2 j hj
    have ek := hS.2.2.2.2.2 k hk
    unfold sp_39 sp_79
    rw [← h6, G24]
    rcases Bool.eq_false_or_eq_true (sp_40 f q') with h | h
    · rw [if_neg (fun z => by rw [(bI0 _).mp z] at h; cases h), if_neg (show ¬ good = 0 from fun z => by rw [hgood.mp z] at h; cases h), kp_sp_63 f i c p _ (5, 0, 0) j rfl]
      rcases Classical.em (j = k) with hjk | hjk
      · subst hjk
        rw [up_eq, ite_self]
        exact e
      · rw [up_ne _ _ (fun z => hjk z.2), G24]
        exact e
    · rw [if_pos ((bI0 _).mpr h), if_pos (hgood.mpr h)]
      rcases Classical.em (f (2, 0, 0) 6 = 0) with h0 | h0
      · rw [if_pos h0, if_pos h0]
        rcases Classical.em (j = k) with hjk | hjk
        · subst hjk
          rw [up_eq]
          exact e
        · rw [up_ne _ _ (fun z => hjk z.2), G24]
          exact e
      · rw [if_neg h0, if_neg h0]
        rcases Classical.em (j = k) with hjk | hjk
        · subst hjk
          rw [up_eq, up_eq, e]
        · rw [up_ne _ _ (fun z => hjk z.2), up_ne _ _ (fun z => hjk z.2), G24]
          exact e
