/-! Commands and the position, side by side. -/
set_option maxRecDepth 4000 in
theorem RS_kg {n : Nat} {f : FI} {fl : FL} {g g' : FI} {gl : FL} {r : Nat} {L : List Nat} (h : RS n f fl g gl r) (k : kp L g g') (e : (L.contains 2109 || L.contains 2003 || L.contains 2023 || L.contains 2124) = false) : RS n f fl g' gl r := by
  simp only [Bool.or_eq_false_iff] at e
  refine ⟨fun p hp => ?_, h.2.1, h.2.2.1, ?_, ?_, fun p hp => ?_⟩
  · rw [k (21, 9, 0) p e.1.1.1]
    exact h.1 p hp
  · rw [k (20, 0, 0) 3 e.1.1.2]
    exact h.2.2.2.1
  · rw [k (20, 0, 0) 23 e.1.2]
    exact h.2.2.2.2.1
  · rw [k (21, 24, 0) p e.2]
    exact h.2.2.2.2.2 p hp
set_option maxRecDepth 4000 in
theorem RS_kf {n : Nat} {f f' : FI} {fl : FL} {g : FI} {gl : FL} {r : Nat} {L : List Nat} (h : RS n f fl g gl r) (k : kp L f f') (e : (L.contains 300 || L.contains 204 || L.contains 203 || L.contains 500) = false) : RS n f' fl g gl r := by
  simp only [Bool.or_eq_false_iff] at e
  refine ⟨fun p hp => ?_, h.2.1, ?_, h.2.2.2.1, ?_, fun p hp => ?_⟩
  · rw [k (3, 0, 0) p e.1.1.1]
    exact h.1 p hp
  · rw [k (2, 0, 0) 4 e.1.1.2]
    exact h.2.2.1
  · rw [k (2, 0, 0) 3 e.1.2]
    exact h.2.2.2.2.1
  · rw [k (5, 0, 0) p e.2]
    exact h.2.2.2.2.2 p hp
def C1 (n : Nat) (f : FI) (fl gl0 : FL) (r i : Nat) (s : FI × FL) : Prop := RS n f fl s.1 s.2 r ∧ KL gl0 s.2 ∧ (∀ p, p < n → f (7, p, 0) 11 = s.1 (21, 19, 0) p ∧ (¬ f (7, p, 0) 11 = 0 → f (7, p, 0) 12 = s.1 (21, 20, 0) p)) ∧ (∃ w, w ≤ i ∧ BL s.1 w (fun x => ct i (fun j => sp_64 f 6 0 j && decide (f (10, 6, 0) j = x)))) ∧ (∀ j, i ≤ j → j < 32 → sp_64 f 6 0 j = false)
set_option maxRecDepth 4000 in
theorem cmd_in {n : Nat} {fl gl0 : FL} {r i : Nat} {f : FI} {s : FI × FL} (hn : n ≤ 6) (hr : r < 256) (hi : i < n) (h : C1 n f fl gl0 r i s) : C1 n (sp_20_2 n fl i f) fl gl0 r (i + 1) (sp_91_7 n i s) := by
  obtain ⟨hS, hK, hO, ⟨w, hw, hB⟩, h0⟩ := h
  have ho := hO i hi
  unfold sp_20_2 sp_91_7
  rw [← ho.1]
  rcases Classical.em (f (7, i, 0) 11 = 0) with z | z
  · rw [if_pos z, if_pos z]
    refine ⟨hS, hK, hO, ⟨w, by omega, BL_c hB (fun x => ?_)⟩, fun j h1 h2 => h0 j (by omega) h2⟩
    rw [ct_s, h0 i (Nat.le_refl _) (by omega)]
    rfl
  · rw [if_neg z, if_neg z, ← ho.2 z]
    generalize f (7, i, 0) 12 = x at *
    have e3 : (3 : Int32) = nI 3 := rfl
    rw [e3]
    have hS2 := RS_send hS hi (nI 3) x
    have hL2 := dl_38 hS i 3 x
    have hF := fr_72 hS i (nI 3) x
    have k1 := kp_sp_38 f fl i (nI 3) x
    have k2 := kp_sp_72 s.1 i (nI 3) x
    have kq := kp_sp_39 (sp_38 f fl i (nI 3) x) (sp_21 n) (nI 3) 6 0 i
    rw [hF]
    generalize sp_38 f fl i (nI 3) x = F at *
    generalize (sp_72 s.1 i (nI 3) x).2 = G at *
    have d := dlv hS2 hL2 hn hi (by omega) hr (Nat.le_refl n) (nI 3)
    have kc : kp [2025] G (sp_75 G s.2 i (nI n) (sp_120 (nI i) (nI 3) (nI r) x)).1 := by
      rw [car_fi]
      exact kp_up (kp_re _ _) rfl
    have h6 : F (2, 0, 0) 6 = (sp_75 G s.2 i (nI n) (sp_120 (nI i) (nI 3) (nI r) x)).1 (20, 0, 0) 25 := by
      rw [car_fi, up_eq, ← hS2.1 i hi]
      exact hL2.2.1
    have kl := KL_75 G s.2 i (nI n) (sp_120 (nI i) (nI 3) (nI r) x)
    rw [d.1, d.2]
    generalize sp_75 G s.2 i (nI n) (sp_120 (nI i) (nI 3) (nI r) x) = C at *
    have hS3 : RS n (sp_39 F n (nI 3) 6 0 i) fl (sp_79 C.1 n (bI (sp_40 F (nI 3)))) C.2 r := RS_dlv (k := n) (i := 6) (c := 0) (p := i) (q' := nI 3) (good := bI (sp_40 F (nI 3))) hS2 h6 (fun p => kc (21, 9, 0) p rfl) (kc (20, 0, 0) 3 rfl) (kc (20, 0, 0) 23 rfl) (fun p => kc (21, 24, 0) p rfl) (fun p => kl _ _ (by simp)) (bI0 _) (Nat.le_refl n)
    have k79 := kp_sp_79 C.1 n (bI (sp_40 F (nI 3)))
    have kG : kp [2023, 2025, 2124] s.1 (sp_79 C.1 n (bI (sp_40 F (nI 3)))) := kp_tr (kp_tr (kp_sub k2 rfl) rfl kc) rfl k79
    have hB2 := BL_kp hB kG rfl rfl rfl
    show C1 n (sp_39 F n (nI 3) 6 0 i) fl gl0 r (i + 1) (sp_84 (sp_79 C.1 n (bI (sp_40 F (nI 3)))) (bI (sp_40 F (nI 3))) (sp_41 F (nI n)) (((sp_79 C.1 n (bI (sp_40 F (nI 3)))) (20, 0, 0) 36).toNatClampNeg), C.2)
    have kq' : kp [500, 900, 1000] F (sp_39 F n (nI 3) 6 0 i) := kq
    rw [hB2.1, nI_clamp (by omega)]
    generalize sp_79 C.1 n (bI (sp_40 F (nI 3))) = H at *
    have k84 := kp_sp_84 H (bI (sp_40 F (nI 3))) (sp_41 F (nI n)) w
    have hbit : ∀ j, j < 32 → sp_64 (sp_39 F n (nI 3) 6 0 i) 6 0 j = if j = i ∧ sp_40 F (nI 3) = true then true else sp_64 f 6 0 j := by
      intro j hj
      rw [h_39 F n (nI 3) 6 0 i 6 0 (by omega) hj, h_kp k1 rfl]
      rcases Classical.em (j = i ∧ sp_40 F (nI 3) = true) with e | e
      · rw [if_pos e, if_pos ⟨⟨rfl, rfl, e.1⟩, e.2⟩]
      · rw [if_neg e, if_neg (fun z => e ⟨z.1.2.2, z.2⟩)]
    have hval : ∀ j, (sp_39 F n (nI 3) 6 0 i) (10, 6, 0) j = if j = i ∧ sp_40 F (nI 3) = true then sp_41 F (nI n) else f (10, 6, 0) j := by
      intro j
      rw [v_39, k1 (10, 6, 0) j rfl]
      rcases Classical.em (j = i ∧ sp_40 F (nI 3) = true) with e | e
      · rw [if_pos e, if_pos ⟨⟨rfl, rfl, e.1⟩, e.2⟩]
      · rw [if_neg e, if_neg (fun z => e ⟨z.1.2.2, z.2⟩)]
    refine ⟨RS_kg hS3 k84 rfl, KL_tr hK kl, fun p hp => ?_, ⟨w + 1, by omega, BL_c (BL_84 hB2 (by omega) _ _) (fun v => ?_)⟩, fun j h1 h2 => ?_⟩
    · show _ = (sp_84 H (bI (sp_40 F (nI 3))) (sp_41 F (nI n)) w) (21, 19, 0) p ∧ (_ → _ = (sp_84 H (bI (sp_40 F (nI 3))) (sp_41 F (nI n)) w) (21, 20, 0) p)
      rw [k84 (21, 19, 0) p rfl, k84 (21, 20, 0) p rfl, kG (21, 19, 0) p rfl, kG (21, 20, 0) p rfl, kq' (7, p, 0) 11 rfl, kq' (7, p, 0) 12 rfl, k1 (7, p, 0) 11 rfl, k1 (7, p, 0) 12 rfl]
      exact hO p hp
    · rw [ct_s, hbit i (by omega), hval i]
      have e1 : ct i (fun j => sp_64 (sp_39 F n (nI 3) 6 0 i) 6 0 j && decide ((sp_39 F n (nI 3) 6 0 i) (10, 6, 0) j = v)) = ct i (fun j => sp_64 f 6 0 j && decide (f (10, 6, 0) j = v)) := ct_ext (fun j hj => by rw [hbit j (by omega), hval j, if_neg (fun z => by omega), if_neg (fun z => by omega)])
      rw [e1]
      rcases Bool.eq_false_or_eq_true (sp_40 F (nI 3)) with e | e
      · rw [e]
        simp [bI]
      · rw [e, h0 i (Nat.le_refl _) (by omega)]
        simp [bI]
    · rw [hbit j h2, if_neg (fun z => by omega)]
      exact h0 j (by omega) h2
set_option maxRecDepth 4000 in
theorem cmd_all {n : Nat} {fl gl : FL} {r : Nat} {f g : FI} (hn : n ≤ 6) (hr : r < 256) (hS : RS n f fl g gl r) (hO : ∀ p, p < n → f (7, p, 0) 11 = g (21, 19, 0) p ∧ (¬ f (7, p, 0) 11 = 0 → f (7, p, 0) 12 = g (21, 20, 0) p)) (h0 : ∀ j, j < 32 → sp_64 f 6 0 j = false) (h6 : f (0, 0, 0) 6 = g (20, 0, 0) 22) :
    RS n (sp_22 n (sp_20 n f fl)) fl (sp_91 n g gl).1 (sp_91 n g gl).2 r ∧ KL gl (sp_91 n g gl).2 ∧ (sp_22 n (sp_20 n f fl)) (0, 0, 0) 5 = (sp_91 n g gl).1 (20, 0, 0) 21 ∧ (sp_22 n (sp_20 n f fl)) (0, 0, 0) 6 = (sp_91 n g gl).1 (20, 0, 0) 22 := by
  have k0 : kp [2036] g (xm_up g (20, 0, 0) 36 (0 : Int32)) := kp_up (kp_re _ _) rfl
  have e := rel_it (N := n) (F := sp_20_2 n fl) (G := sp_91_7 n) (R := fun i F S => C1 n F fl gl r i S) (s0 := f) (t0 := ((xm_up g (20, 0, 0) 36 (0 : Int32)), gl)) ⟨RS_kg hS k0 rfl, fun _ _ _ => rfl, fun p hp => ?_, ⟨0, Nat.le_refl _, BL_0 g⟩, fun j _ hj => h0 j hj⟩ (fun i F S hi h => cmd_in hn hr hi h)
  · have kf : kp [203, 205, 206, 207, 208, 209, 210, 500, 900, 1000] f (sp_20 n f fl) := kp_sp_20 n f fl
    have kg : kp [2023, 2025, 2036, 2124, 2137, 2138] g (lq_it n (sp_91_7 n) ((xm_up g (20, 0, 0) 36 (0 : Int32)), gl)).1 := kp_it (p := fun (s : FI × FL) => s.1) (kp_sub k0 rfl) (fun i s => kp_sp_91_7 n i s)
    unfold sp_91
    show RS n (sp_22 n (sp_20 n f fl)) fl _ (lq_it n (sp_91_7 n) ((xm_up g (20, 0, 0) 36 (0 : Int32)), gl)).2 r ∧ KL gl (lq_it n (sp_91_7 n) ((xm_up g (20, 0, 0) 36 (0 : Int32)), gl)).2 ∧ _
    have e' : C1 n (sp_20 n f fl) fl gl r n (lq_it n (sp_91_7 n) ((xm_up g (20, 0, 0) 36 (0 : Int32)), gl)) := e
    generalize lq_it n (sp_91_7 n) ((xm_up g (20, 0, 0) 36 (0 : Int32)), gl) = S at *
    generalize sp_20 n f fl = F at *
    obtain ⟨hS2, hK, -, ⟨w, hw, hB⟩, -⟩ := e'
    rw [hB.1, nI_clamp (by omega)]
    have p1 := pc_1 hn
    have q := w_eq (f := F) (i := 6) (k := 0) (v := sp_1 (nI n)) (g := S.1) hn p1.1 (by omega) p1.2.1 hB (fun x => ct_ext (fun j hj => by
      unfold cq
      rw [bt_and, ← h_64 _ _ _ (by omega), p1.2.2 j hj, Bool.and_true]))
    have k85 := kp_sp_85 S.1 (nI n) w
    have s6 : F (0, 0, 0) 6 = (sp_85 S.1 (nI n) w).2 (20, 0, 0) 22 := by
      rw [k85 (20, 0, 0) 22 rfl, kg (20, 0, 0) 22 rfl, kf (0, 0, 0) 6 rfl]
      exact h6
    have kU : ∀ a b, kp [2021, 2022, 2039] S.1 (xm_up (xm_up (sp_85 S.1 (nI n) w).2 (20, 0, 0) 21 a) (20, 0, 0) 22 b) := fun a b => kp_up (kp_up (kp_sub k85 rfl) rfl) rfl
    refine ⟨RS_kg (RS_kf hS2 (kp_sp_22 n F) rfl) (kU _ _) rfl, hK, ?_⟩
    unfold sp_22
    dsimp only
    have u1 : ∀ a b : Int32, (xm_up (xm_up (sp_85 S.1 (nI n) w).2 (20, 0, 0) 21 a) (20, 0, 0) 22 b) (20, 0, 0) 21 = a := fun a b => by rw [up_ne _ _ (by simp), up_eq]
    rw [u1, up_eq]
    rcases q with ⟨q1, q2⟩ | ⟨j, hj, q1, q2, q3, q4⟩
    · rw [if_pos q1, q2, if_pos (show bI false = 0 from rfl), if_pos (show bI false = 0 from rfl), up_ne _ _ (by simp), up_eq, up_eq, s6]
      exact ⟨rfl, rfl⟩
    · rw [if_neg q2, q3, if_neg (show ¬ bI true = 0 by decide), if_neg (show ¬ bI true = 0 by decide), q1, nI_clamp (by omega), up_eq, up_ne _ _ (by simp), q4]
      exact ⟨rfl, s6⟩
  · show _ = (xm_up g (20, 0, 0) 36 (0 : Int32)) (21, 19, 0) p ∧ (_ → _ = (xm_up g (20, 0, 0) 36 (0 : Int32)) (21, 20, 0) p)
    rw [k0 (21, 19, 0) p rfl, k0 (21, 20, 0) p rfl]
    exact hO p hp
