/-! A turn of the law, for each call: the rest. -/
set_option maxRecDepth 4000 in
theorem tt_4 {n K L P Q t i : Nat} {xs : Nat → Int32} {c : Nat × Nat} {fi : FI} {fl : FL} {r : xm_I → Nat → Option xm_I} (hn : n ≤ 6) (h : Tn n K L xs P Q t c fi fl r) (hsc : (en n L).1 (40, 0, 0) = (110, L)) (hL : L < 100000) (hi : i + 5 ≤ L) (hx : 200 ≤ ((en n L).1 ((en n L).2.2 c.1)).1) (hop : xs i &&& 31 = 4) : TT n K L xs P Q t i c fi fl r := by
  obtain ⟨⟨hs, -⟩, hf, hB, hxs, ρ, -, hR⟩ := id h
  have hN := hR.2.2.2.2.2.2
  rcases nd_of n hn (xs (i + 1)) with ⟨p, hp, e⟩ | ⟨e1, e2⟩
  · have k4 := kp_sp_44 fi p
    have l1 := (hN p hp).2.1
    have l2 : (sp_44 fi p).2 (21, 11, 0) p = fi (21, 11, 0) p := k4 (21, 11, 0) p rfl
    rcases Classical.em (fi (21, 11, 0) p = 0) with z | z
    · have e44 : (sp_44 fi p).1 = true := by
        show (if (fi (7, p, 0) 3) = 0 then true else false) = true
        rw [if_pos (l1.trans z)]
      refine ⟨_, _, _, ?_, fun R K => lw_4_v0 hs hf hB hsc hL hi hxs hop e hp (lgu (by rw [e44, if_neg (show ¬ bI true = 0 by decide)])) (l2.trans z) K⟩
      have k : kp [2000, 2111, 2118, 2119] (sp_44 fi p).2 (xm_up (xm_up (xm_up (xm_up ((sp_44 fi p).2) (20, 0, 0) 0 (0 : Int32)) (21, 11, 0) p (1 : Int32)) (21, 18, 0) p (0 : Int32)) (21, 19, 0) p (0 : Int32)) := kp_up (kp_up (kp_up (kp_up (kp_re _ _) rfl) rfl) rfl) rfl
      have kA : kp [703, 710, 711, 2000, 2111, 2118, 2119] fi (xm_up (xm_up (xm_up (xm_up ((sp_44 fi p).2) (20, 0, 0) 0 (0 : Int32)) (21, 11, 0) p (1 : Int32)) (21, 18, 0) p (0 : Int32)) (21, 19, 0) p (0 : Int32)) := kp_tr (kp_sub k4 rfl) rfl k
      refine T_rel h kA rfl (fun ρ hR => ?_)
      refine Rel_of hR kA rfl kA rfl (GN_kp hR.1 kA rfl kA rfl (fun j => up_ne _ _ (by simp))) (RD_kp hR.2.2.1 kA rfl kA rfl) (QQ_kp hR.2.2.2.1 kA rfl kA rfl (fun j => up_ne _ _ (by simp)) (fun j => up_ne _ _ (by simp))) (fun a ha => rst hp ha (hR.2.2.2.2.2.2 a ha) k (fun q => ?_) (fun q => ?_) (fun q => ?_))
      · rw [up_ne _ _ (by simp), up_ne _ _ (by simp)]
        rcases Classical.em (q = p) with y | y
        · rw [y, up_eq, if_pos rfl]
        · rw [up_ne _ _ (fun x => y x.2), up_ne _ _ (by simp), if_neg y]
          exact k4 (21, 11, 0) q rfl
      · rw [up_ne _ _ (by simp)]
        rcases Classical.em (q = p) with y | y
        · rw [y, up_eq, if_pos rfl]
        · rw [up_ne _ _ (fun x => y x.2), up_ne _ _ (by simp), up_ne _ _ (by simp), if_neg y]
          exact k4 (21, 18, 0) q rfl
      · rcases Classical.em (q = p) with y | y
        · rw [y, up_eq, if_pos rfl]
        · rw [up_ne _ _ (fun x => y x.2), up_ne _ _ (by simp), up_ne _ _ (by simp), up_ne _ _ (by simp), if_neg y]
          exact k4 (21, 19, 0) q rfl
    · have e44 : (sp_44 fi p).1 = false := by
        show (if (fi (7, p, 0) 3) = 0 then true else false) = false
        rw [if_neg (by rw [l1]; exact z)]
      refine ⟨_, _, _, ?_, fun R K => lw_4_v1 hs hf hB hsc hL hi hxs hop e hp (lgu (by rw [e44, if_pos (show bI false = 0 from rfl)])) (by rw [l2]; exact z) K⟩
      have k : kp [2000, 2111, 2118, 2119] (sp_44 fi p).2 (xm_up ((sp_44 fi p).2) (20, 0, 0) 0 (0 : Int32)) := kp_up (kp_re _ _) rfl
      have kA : kp [703, 710, 711, 2000, 2111, 2118, 2119] fi (xm_up ((sp_44 fi p).2) (20, 0, 0) 0 (0 : Int32)) := kp_tr (kp_sub k4 rfl) rfl k
      refine T_rel h kA rfl (fun ρ hR => ?_)
      have w := hR.2.2.2.2.2.2 p hp
      have w8 := w.2.2.2.2.2.2.2 z
      have w1 := w.2.2.1.resolve_left z
      refine Rel_of hR kA rfl kA rfl (GN_kp hR.1 kA rfl kA rfl (fun j => up_ne _ _ (by simp))) (RD_kp hR.2.2.1 kA rfl kA rfl) (QQ_kp hR.2.2.2.1 kA rfl kA rfl (fun j => up_ne _ _ (by simp)) (fun j => up_ne _ _ (by simp))) (fun a ha => rst hp ha (hR.2.2.2.2.2.2 a ha) k (fun q => ?_) (fun q => ?_) (fun q => ?_))
      · rw [up_ne _ _ (by simp), k4 (21, 11, 0) q rfl]
        rcases Classical.em (q = p) with y | y
        · rw [if_pos y, y, w1]
        · rw [if_neg y]
      · rw [up_ne _ _ (by simp), k4 (21, 18, 0) q rfl]
        rcases Classical.em (q = p) with y | y
        · rw [if_pos y, y, w8.1]
        · rw [if_neg y]
      · rw [up_ne _ _ (by simp), k4 (21, 19, 0) q rfl]
        rcases Classical.em (q = p) with y | y
        · rw [if_pos y, y, w8.2]
        · rw [if_neg y]
  · exact ⟨_, _, _, T_th h 1, fun R K => lw_4_i hs hf hB hsc hL hi hxs hop hx e1 e2 K⟩
set_option maxRecDepth 4000 in
theorem tt_5 {n K L P Q t i : Nat} {xs : Nat → Int32} {c : Nat × Nat} {fi : FI} {fl : FL} {r : xm_I → Nat → Option xm_I} (hn : n ≤ 6) (h : Tn n K L xs P Q t c fi fl r) (hsc : (en n L).1 (40, 0, 0) = (110, L)) (hL : L < 100000) (hi : i + 5 ≤ L) (hx : 200 ≤ ((en n L).1 ((en n L).2.2 c.1)).1) (hK : 0 < K) (hK8 : K < 16) (ht : t < 1000000) (hop : xs i &&& 31 = 5) : TT n K L xs P Q t i c fi fl r := by
  obtain ⟨⟨hs, -⟩, hf, hB, hxs, -⟩ := id h
  rcases Classical.em (xs (i + 1) < (1 : Int32)) with c0 | c0
  · have c2 : xs (i + 1) ≤ (0 : Int32) := by
      rw [Int32.lt_iff_toInt_lt, show (1 : Int32).toInt = 1 from rfl] at c0
      rw [Int32.le_iff_toInt_le, show (0 : Int32).toInt = 0 from rfl]
      omega
    exact ⟨_, _, _, T_th h 1, fun R K => lw_5_b0 hs hf hB hsc hL hi hxs hop hx c0 c0 c2 K⟩
  · have c2 : ¬ xs (i + 1) ≤ (0 : Int32) := by
      rw [Int32.lt_iff_toInt_lt, show (1 : Int32).toInt = 1 from rfl] at c0
      rw [Int32.le_iff_toInt_le, show (0 : Int32).toInt = 0 from rfl]
      omega
    rcases Classical.em (xs (i + 1) ≤ (4 : Int32)) with c1 | c1
    · have cn : ¬ xs (i + 1) < 0 := by
        rw [Int32.lt_iff_toInt_lt, show (1 : Int32).toInt = 1 from rfl] at c0
        rw [Int32.lt_iff_toInt_lt, show (0 : Int32).toInt = 0 from rfl]
        omega
      obtain ⟨m, hm, e⟩ := nI_of cn
      rw [e, Int32.lt_iff_toInt_lt, show (1 : Int32).toInt = 1 from rfl, nI_toInt hm] at c0
      rw [e, Int32.le_iff_toInt_le, show (4 : Int32).toInt = 4 from rfl, nI_toInt hm] at c1
      have q := run_5 (m := m) hn hK hK8 (by omega) ht h
      exact ⟨_, _, _, q.2.2, fun R K => lw_5_ok hs hf hB hsc hL hi hxs hop e (by omega) (by omega) q.1 q.2.1 K⟩
    · exact ⟨_, _, _, T_th h 1, fun R K => lw_5_b1 hs hf hB hsc hL hi hxs hop hx c0 c1 c0 c1 c2 K⟩
set_option maxRecDepth 4000 in
theorem tt_6 {n K L P Q t i : Nat} {xs : Nat → Int32} {c : Nat × Nat} {fi : FI} {fl : FL} {r : xm_I → Nat → Option xm_I} (hn : n ≤ 6) (h : Tn n K L xs P Q t c fi fl r) (hsc : (en n L).1 (40, 0, 0) = (110, L)) (hL : L < 100000) (hi : i + 5 ≤ L) (hx : 200 ≤ ((en n L).1 ((en n L).2.2 c.1)).1) (hop : xs i &&& 31 = 6) : TT n K L xs P Q t i c fi fl r := by
  obtain ⟨⟨hs, -⟩, hf, hB, hxs, ρ, -, hR⟩ := id h
  have hN := hR.2.2.2.2.2.2
  rcases nd_of n hn (xs (i + 1)) with ⟨p, hp, e⟩ | ⟨e1, e2⟩
  · rcases nd_of n hn (xs (i + 2)) with ⟨o, ho, e'⟩ | ⟨e1, e2⟩
    · have w := hN p hp
      rcases Classical.em (fi (7, p, 0) 10 = 0) with z | z
      · exact ⟨_, _, _, T_th h 2, fun R K => lw_6_a hs hf hB hsc hL hi hxs hop e e' hp ho hx z (w.2.2.2.1.symm.trans z) K⟩
      · have w7 := w.2.2.2.2.2.2.1 z o ho
        have z2 : ¬ fi (21, 18, 0) p = 0 := by rw [← w.2.2.2.1]; exact z
        rcases Bool.eq_false_or_eq_true (sp_64 fi p 1 o) with y | y
        · exact ⟨_, _, _, T_pl h 0 _, fun R K => lw_6_c hs hf hB hsc hL hi hxs hop e e' hp ho (lgu (by rw [show sp_65 fi p 1 o = fi (10, p, 1) o from rfl, w7.2 y])) z (by rw [y]; decide) z2 (by rw [w7.1, y]; decide) K⟩
        · exact ⟨_, _, _, T_th h 3, fun R K => lw_6_b hs hf hB hsc hL hi hxs hop e e' hp ho hx z (by rw [y]; rfl) z2 (by rw [w7.1, y]; rfl) K⟩
    · exact ⟨_, _, _, T_th h 1, fun R K => lw_6_j hs hf hB hsc hL hi hxs hop e hp hx e1 e2 K⟩
  · exact ⟨_, _, _, T_th h 1, fun R K => lw_6_i hs hf hB hsc hL hi hxs hop hx e1 e2 K⟩
set_option maxRecDepth 4000 in
theorem tt_7 {n K L P Q t i : Nat} {xs : Nat → Int32} {c : Nat × Nat} {fi : FI} {fl : FL} {r : xm_I → Nat → Option xm_I} (hn : n ≤ 6) (h : Tn n K L xs P Q t c fi fl r) (hsc : (en n L).1 (40, 0, 0) = (110, L)) (hL : L < 100000) (hi : i + 5 ≤ L) (hx : 200 ≤ ((en n L).1 ((en n L).2.2 c.1)).1) (hop : xs i &&& 31 = 7) : TT n K L xs P Q t i c fi fl r := by
  obtain ⟨⟨hs, -⟩, hf, hB, hxs, ρ, -, hR⟩ := id h
  have hN := hR.2.2.2.2.2.2
  rcases nd_of n hn (xs (i + 1)) with ⟨p, hp, e⟩ | ⟨e1, e2⟩
  · have w := hN p hp
    have hl : fi (7, p, 0) 3 = 0 ∨ fi (7, p, 0) 3 = 1 := by rw [w.2.1]; exact w.2.2.1
    rcases Classical.em (fi (21, 11, 0) p = 0) with z | z
    · exact ⟨_, _, _, T_pl h 0 _, fun R K => lw_7_v0 hs hf hB hsc hL hi hxs hop e hp hl (lgu (by rw [w.2.1, if_pos z])) z K⟩
    · exact ⟨_, _, _, T_pl h 0 _, fun R K => lw_7_v1 hs hf hB hsc hL hi hxs hop e hp hl (lgu (by rw [w.2.1, if_neg z])) z K⟩
  · exact ⟨_, _, _, T_th h 1, fun R K => lw_7_i hs hf hB hsc hL hi hxs hop hx e1 e2 K⟩
set_option maxRecDepth 4000 in
theorem tt_8 {n K L P Q t i : Nat} {xs : Nat → Int32} {c : Nat × Nat} {fi : FI} {fl : FL} {r : xm_I → Nat → Option xm_I} (hn : n ≤ 6) (h : Tn n K L xs P Q t c fi fl r) (hsc : (en n L).1 (40, 0, 0) = (110, L)) (hL : L < 100000) (hi : i + 5 ≤ L) (hx : 200 ≤ ((en n L).1 ((en n L).2.2 c.1)).1) (hop : xs i &&& 31 = 8) : TT n K L xs P Q t i c fi fl r := by
  obtain ⟨⟨hs, -⟩, hf, hB, hxs, ρ, -, hR⟩ := id h
  have hN := hR.2.2.2.2.2.2
  rcases nd_of n hn (xs (i + 1)) with ⟨p, hp, e⟩ | ⟨e1, e2⟩
  · rcases nd_of n hn (xs (i + 2)) with ⟨o, ho, e'⟩ | ⟨e1, e2⟩
    · have w := hN p hp
      rcases Classical.em (fi (21, 11, 0) p = 0) with z | z
      · have w14 := w.1.2.2.1 o ho
        have e50 := i_50 fi p (show o < 32 by omega)
        rcases Bool.eq_false_or_eq_true (bt (fi (8, p, 0) 2) o) with y | y
        · exact ⟨_, _, _, T_pl h 0 _, fun R K => lw_8_v1 hs hf hB hsc hL hi hxs hop e e' hp ho (lgu (by rw [e50, y, if_neg (show ¬ bI true = 0 by decide)])) (w.2.1.trans z) z (by rw [w14, y]; decide) K⟩
        · exact ⟨_, _, _, T_pl h 0 _, fun R K => lw_8_v0 hs hf hB hsc hL hi hxs hop e e' hp ho (lgu (by rw [e50, y, if_pos (show bI false = 0 from rfl)])) (w.2.1.trans z) z (by rw [w14, y]; rfl) K⟩
      · exact ⟨_, _, _, T_th h 2, fun R K => lw_8_v2 hs hf hB hsc hL hi hxs hop e e' hp ho hx (by rw [w.2.1]; exact z) z K⟩
    · exact ⟨_, _, _, T_th h 1, fun R K => lw_8_j hs hf hB hsc hL hi hxs hop e hp hx e1 e2 K⟩
  · exact ⟨_, _, _, T_th h 1, fun R K => lw_8_i hs hf hB hsc hL hi hxs hop hx e1 e2 K⟩
set_option maxRecDepth 4000 in
theorem tt_9 {n K L P Q t i : Nat} {xs : Nat → Int32} {c : Nat × Nat} {fi : FI} {fl : FL} {r : xm_I → Nat → Option xm_I} (hn : n ≤ 6) (h : Tn n K L xs P Q t c fi fl r) (hsc : (en n L).1 (40, 0, 0) = (110, L)) (hL : L < 100000) (hi : i + 5 ≤ L) (hx : 200 ≤ ((en n L).1 ((en n L).2.2 c.1)).1) (hop : xs i &&& 31 = 9) : TT n K L xs P Q t i c fi fl r := by
  obtain ⟨⟨hs, -⟩, hf, hB, hxs, ρ, -, hR⟩ := id h
  have hN := hR.2.2.2.2.2.2
  rcases nd_of n hn (xs (i + 1)) with ⟨p, hp, e⟩ | ⟨e1, e2⟩
  · rcases nd_of n hn (xs (i + 2)) with ⟨o, ho, e'⟩ | ⟨e1, e2⟩
    · have w := hN p hp
      rcases Classical.em (fi (21, 11, 0) p = 0) with z | z
      · exact ⟨_, _, _, T_pl h 0 _, fun R K => lw_9_v0 hs hf hB hsc hL hi hxs hop e e' hp ho (lgu (by rw [n_54 hn w.1 ho])) (w.2.1.trans z) z K⟩
      · exact ⟨_, _, _, T_th h 2, fun R K => lw_9_v1 hs hf hB hsc hL hi hxs hop e e' hp ho hx (by rw [w.2.1]; exact z) z K⟩
    · exact ⟨_, _, _, T_th h 1, fun R K => lw_9_j hs hf hB hsc hL hi hxs hop e hp hx e1 e2 K⟩
  · exact ⟨_, _, _, T_th h 1, fun R K => lw_9_i hs hf hB hsc hL hi hxs hop hx e1 e2 K⟩
set_option maxRecDepth 4000 in
theorem tt_10 {n K L P Q t i : Nat} {xs : Nat → Int32} {c : Nat × Nat} {fi : FI} {fl : FL} {r : xm_I → Nat → Option xm_I} (hn : n ≤ 6) (h : Tn n K L xs P Q t c fi fl r) (hsc : (en n L).1 (40, 0, 0) = (110, L)) (hL : L < 100000) (hi : i + 5 ≤ L) (hx : 200 ≤ ((en n L).1 ((en n L).2.2 c.1)).1) (hop : xs i &&& 31 = 10) : TT n K L xs P Q t i c fi fl r := by
  obtain ⟨⟨hs, -⟩, hf, hB, hxs, ρ, -, hR⟩ := id h
  have hN := hR.2.2.2.2.2.2
  rcases nd_of n hn (xs (i + 1)) with ⟨p, hp, e⟩ | ⟨e1, e2⟩
  · have w := hN p hp
    rcases Classical.em (fi (21, 11, 0) p = 0) with z | z
    · exact ⟨_, _, _, T_pl h 0 _, fun R K => lw_10_v0 hs hf hB hsc hL hi hxs hop e hp (lgu (by rw [w.1.1])) (w.2.1.trans z) z K⟩
    · exact ⟨_, _, _, T_th h 2, fun R K => lw_10_v1 hs hf hB hsc hL hi hxs hop e hp hx (by rw [w.2.1]; exact z) z K⟩
  · exact ⟨_, _, _, T_th h 1, fun R K => lw_10_i hs hf hB hsc hL hi hxs hop hx e1 e2 K⟩
set_option maxRecDepth 4000 in
theorem tt_11 {n K L P Q t i : Nat} {xs : Nat → Int32} {c : Nat × Nat} {fi : FI} {fl : FL} {r : xm_I → Nat → Option xm_I} (hn : n ≤ 6) (h : Tn n K L xs P Q t c fi fl r) (hsc : (en n L).1 (40, 0, 0) = (110, L)) (hL : L < 100000) (hi : i + 5 ≤ L) (hx : 200 ≤ ((en n L).1 ((en n L).2.2 c.1)).1) (hop : xs i &&& 31 = 11) : TT n K L xs P Q t i c fi fl r := by
  obtain ⟨⟨hs, -⟩, hf, hB, hxs, ρ, -, hR⟩ := id h
  have hN := hR.2.2.2.2.2.2
  rcases nd_of n hn (xs (i + 1)) with ⟨p, hp, e⟩ | ⟨e1, e2⟩
  · have w := hN p hp
    rcases Classical.em (fi (21, 11, 0) p = 0) with z | z
    · exact ⟨_, _, _, T_pl h 0 _, fun R K => lw_11_v0 hs hf hB hsc hL hi hxs hop e hp (lgu (by rw [w.1.2.1])) (w.2.1.trans z) z K⟩
    · exact ⟨_, _, _, T_th h 2, fun R K => lw_11_v1 hs hf hB hsc hL hi hxs hop e hp hx (by rw [w.2.1]; exact z) z K⟩
  · exact ⟨_, _, _, T_th h 1, fun R K => lw_11_i hs hf hB hsc hL hi hxs hop hx e1 e2 K⟩
set_option maxRecDepth 4000 in
theorem tt_12 {n K L P Q t i : Nat} {xs : Nat → Int32} {c : Nat × Nat} {fi : FI} {fl : FL} {r : xm_I → Nat → Option xm_I} (hn : n ≤ 6) (h : Tn n K L xs P Q t c fi fl r) (hsc : (en n L).1 (40, 0, 0) = (110, L)) (hL : L < 100000) (hi : i + 5 ≤ L) (hx : 200 ≤ ((en n L).1 ((en n L).2.2 c.1)).1) (hop : xs i &&& 31 = 12) : TT n K L xs P Q t i c fi fl r := by
  obtain ⟨⟨hs, -⟩, hf, hB, hxs, ρ, -, hR⟩ := id h
  have hN := hR.2.2.2.2.2.2
  rcases nd_of n hn (xs (i + 1)) with ⟨p, hp, e⟩ | ⟨e1, e2⟩
  · have w := hN p hp
    rcases Classical.em (fi (7, p, 0) 11 = 0) with z | z
    · exact ⟨_, _, _, T_th h 2, fun R K => lw_12_v0 hs hf hB hsc hL hi hxs hop e hp hx z (w.2.2.2.2.1.symm.trans z) K⟩
    · exact ⟨_, _, _, T_pl h 0 _, fun R K => lw_12_v1 hs hf hB hsc hL hi hxs hop e hp (lgu (by rw [w.2.2.2.2.2.1 z])) z (by rw [← w.2.2.2.2.1]; exact z) K⟩
  · exact ⟨_, _, _, T_th h 1, fun R K => lw_12_i hs hf hB hsc hL hi hxs hop hx e1 e2 K⟩
set_option maxRecDepth 4000 in
theorem tt_13 {n K L P Q t i : Nat} {xs : Nat → Int32} {c : Nat × Nat} {fi : FI} {fl : FL} {r : xm_I → Nat → Option xm_I} (hn : n ≤ 6) (h : Tn n K L xs P Q t c fi fl r) (hsc : (en n L).1 (40, 0, 0) = (110, L)) (hL : L < 100000) (hi : i + 5 ≤ L) (hx : 200 ≤ ((en n L).1 ((en n L).2.2 c.1)).1) (hop : xs i &&& 31 = 13) : TT n K L xs P Q t i c fi fl r := by
  obtain ⟨⟨hs, -⟩, hf, hB, hxs, ρ, -, hR⟩ := id h
  have hN := hR.2.2.2.2.2.2
  rcases nd_of n hn (xs (i + 1)) with ⟨p, hp, e⟩ | ⟨e1, e2⟩
  · rcases nd_of n hn (xs (i + 2)) with ⟨o, ho, e'⟩ | ⟨e1, e2⟩
    · have w := hN p hp
      have q := same_eq hn w (hN o ho)
      have g0 : sp_69 (sp_111 n fi p o).2 = (0 : Int32) := by
        rw [q.2]
        exact up_eq _ _ _ _
      rcases Bool.eq_false_or_eq_true (sp_60 fi p o) with y | y
      · refine ⟨_, _, _, ?_, fun R K => lw_13_v1 hs hf hB hsc hL hi hxs hop e e' hp ho g0 (by rw [q.1, y]; decide) (lgu (by rw [y, if_neg (show ¬ bI true = 0 by decide)])) K⟩
        rw [q.2]
        exact T_pl h 0 _
      · refine ⟨_, _, _, ?_, fun R K => lw_13_v0 hs hf hB hsc hL hi hxs hop e e' hp ho g0 (by rw [q.1, y]; rfl) (lgu (by rw [y, if_pos (show bI false = 0 from rfl)])) K⟩
        rw [q.2]
        exact T_pl h 0 _
    · exact ⟨_, _, _, T_th h 1, fun R K => lw_13_j hs hf hB hsc hL hi hxs hop e hp hx e1 e2 K⟩
  · exact ⟨_, _, _, T_th h 1, fun R K => lw_13_i hs hf hB hsc hL hi hxs hop hx e1 e2 K⟩
set_option maxRecDepth 4000 in
theorem tt_14 {n K L P Q t i : Nat} {xs : Nat → Int32} {c : Nat × Nat} {fi : FI} {fl : FL} {r : xm_I → Nat → Option xm_I} (hn : n ≤ 6) (h : Tn n K L xs P Q t c fi fl r) (hsc : (en n L).1 (40, 0, 0) = (110, L)) (hL : L < 100000) (hi : i + 5 ≤ L) (hx : 200 ≤ ((en n L).1 ((en n L).2.2 c.1)).1) (hop : xs i &&& 31 = 14) : TT n K L xs P Q t i c fi fl r := by
  obtain ⟨⟨hs, -⟩, hf, hB, hxs, ρ, -, hR⟩ := id h
  have hN := hR.2.2.2.2.2.2
  exact ⟨_, _, _, T_p0 h 0, fun R K => lw_14_l hs hf hB hsc hL hi hxs hop hR.2.2.2.2.2.1.1 K⟩
set_option maxRecDepth 4000 in
theorem tt_15 {n K L P Q t i : Nat} {xs : Nat → Int32} {c : Nat × Nat} {fi : FI} {fl : FL} {r : xm_I → Nat → Option xm_I} (hn : n ≤ 6) (h : Tn n K L xs P Q t c fi fl r) (hsc : (en n L).1 (40, 0, 0) = (110, L)) (hL : L < 100000) (hi : i + 5 ≤ L) (hx : 200 ≤ ((en n L).1 ((en n L).2.2 c.1)).1) (hop : xs i &&& 31 = 15) : TT n K L xs P Q t i c fi fl r := by
  obtain ⟨⟨hs, -⟩, hf, hB, hxs, ρ, -, hR⟩ := id h
  have hN := hR.2.2.2.2.2.2
  exact ⟨_, _, _, T_p0 h 0, fun R K => lw_15_l hs hf hB hsc hL hi hxs hop hR.2.2.2.2.2.1.2 K⟩
set_option maxRecDepth 4000 in
theorem tt_16 {n K L P Q t i : Nat} {xs : Nat → Int32} {c : Nat × Nat} {fi : FI} {fl : FL} {r : xm_I → Nat → Option xm_I} (hn : n ≤ 6) (h : Tn n K L xs P Q t c fi fl r) (hsc : (en n L).1 (40, 0, 0) = (110, L)) (hL : L < 100000) (hi : i + 5 ≤ L) (hx : 200 ≤ ((en n L).1 ((en n L).2.2 c.1)).1) (hop : xs i &&& 31 = 16) : TT n K L xs P Q t i c fi fl r := by
  obtain ⟨⟨hs, -⟩, hf, hB, hxs, ρ, -, hR⟩ := id h
  have hN := hR.2.2.2.2.2.2
  exact ⟨_, _, _, T_p0 h 0, fun R K => lw_16_l hs hf hB hsc hL hi hxs hop hR.2.2.2.1.2.2.1 K⟩
set_option maxRecDepth 4000 in
theorem tt_17 {n K L P Q t i : Nat} {xs : Nat → Int32} {c : Nat × Nat} {fi : FI} {fl : FL} {r : xm_I → Nat → Option xm_I} (hn : n ≤ 6) (h : Tn n K L xs P Q t c fi fl r) (hsc : (en n L).1 (40, 0, 0) = (110, L)) (hL : L < 100000) (hi : i + 5 ≤ L) (hx : 200 ≤ ((en n L).1 ((en n L).2.2 c.1)).1) (hop : xs i &&& 31 = 17) : TT n K L xs P Q t i c fi fl r := by
  obtain ⟨⟨hs, -⟩, hf, hB, hxs, ρ, -, hR⟩ := id h
  have hN := hR.2.2.2.2.2.2
  rcases nd_of n hn (xs (i + 1)) with ⟨p, hp, e⟩ | ⟨e1, e2⟩
  · exact ⟨_, _, _, T_pl h 0 _, fun R K => lw_17_v hs hf hB hsc hL hi hxs hop e hp (lgu (by rw [hR.2.2.2.1.2.2.2 p (by omega)])) (nI_pos (by omega)) (nI_le (by omega) (by omega)) K⟩
  · rcases Classical.em (xs (i + 1) = nI n) with z | z
    · exact ⟨_, _, _, T_pl h 0 _, fun R K => lw_17_a hs hf hB hsc hL hi hxs hop z rfl (lgu (by rw [hR.2.2.2.1.2.2.2 n (Nat.le_refl n)])) (by rw [← z]; exact e1) rfl (nI_pos (by omega)) (nI_le (Nat.le_refl n) (by omega)) K⟩
    · rcases Classical.em (xs (i + 1) < 0) with y | y
      · exact ⟨_, _, _, T_th h 1, fun R K => lw_17_i0 hs hf hB hsc hL hi hxs hop hx e1 z y K⟩
      · refine ⟨_, _, _, T_th h 1, fun R K => lw_17_i1 hs hf hB hsc hL hi hxs hop hx e1 z y ?_ K⟩
        obtain ⟨m, hm, e⟩ := nI_of y
        intro u
        rw [e] at u z e2
        have u2 : m ≤ n := (nI_leI hm (by omega)).mp u
        have u3 : ¬ m = n := fun v => z (by rw [v])
        refine e2 ?_
        unfold sp_99
        rw [if_neg (nI_pos hm), if_pos (nI_lt (by omega) (by omega))]
        rfl
set_option maxRecDepth 4000 in
theorem tt_18 {n K L P Q t i : Nat} {xs : Nat → Int32} {c : Nat × Nat} {fi : FI} {fl : FL} {r : xm_I → Nat → Option xm_I} (hn : n ≤ 6) (h : Tn n K L xs P Q t c fi fl r) (hsc : (en n L).1 (40, 0, 0) = (110, L)) (hL : L < 100000) (hi : i + 5 ≤ L) (hx : 200 ≤ ((en n L).1 ((en n L).2.2 c.1)).1) (hop : xs i &&& 31 = 18) : TT n K L xs P Q t i c fi fl r := by
  obtain ⟨⟨hs, -⟩, hf, hB, hxs, ρ, -, hR⟩ := id h
  have hN := hR.2.2.2.2.2.2
  have b : ∀ {x y z : Int32}, (x < 0 ∨ (15 : Int32) < x ∨ y < 0 ∨ (15 : Int32) < y ∨ z < 0 ∨ (255 : Int32) < z) → bI (sp_125 x y z) = 0 := by
    intro x y z hh
    unfold sp_125
    rcases Classical.em (x < 0) with a | a
    · rw [if_pos a]
      rfl
    rw [if_neg a]
    rcases Classical.em ((15 : Int32) < x) with a1 | a1
    · rw [if_pos a1]
      rfl
    rw [if_neg a1]
    rcases Classical.em (y < 0) with a2 | a2
    · rw [if_pos a2]
      rfl
    rw [if_neg a2]
    rcases Classical.em ((15 : Int32) < y) with a3 | a3
    · rw [if_pos a3]
      rfl
    rw [if_neg a3]
    rcases Classical.em (z < 0) with a4 | a4
    · rw [if_pos a4]
      rfl
    rw [if_neg a4]
    rcases Classical.em ((255 : Int32) < z) with a5 | a5
    · rw [if_pos a5]
      rfl
    · rcases hh with hh | hh | hh | hh | hh | hh
      · exact absurd hh a
      · exact absurd hh a1
      · exact absurd hh a2
      · exact absurd hh a3
      · exact absurd hh a4
      · exact absurd hh a5
  rcases Classical.em (xs (i + 1) < 0) with c0 | c0
  · exact ⟨_, _, _, T_th h 1, fun R K => lw_18_b0 hs hf hB hsc hL hi hxs hop hx (b (Or.inl c0)) c0 K⟩
  rcases Classical.em ((15 : Int32) < xs (i + 1)) with c1 | c1
  · exact ⟨_, _, _, T_th h 1, fun R K => lw_18_b1 hs hf hB hsc hL hi hxs hop hx (b (Or.inr (Or.inl c1))) c0 c1 K⟩
  rcases Classical.em (xs (i + 2) < 0) with c2 | c2
  · exact ⟨_, _, _, T_th h 1, fun R K => lw_18_b2 hs hf hB hsc hL hi hxs hop hx (b (Or.inr (Or.inr (Or.inl c2)))) c0 c1 c2 K⟩
  rcases Classical.em ((15 : Int32) < xs (i + 2)) with c3 | c3
  · exact ⟨_, _, _, T_th h 1, fun R K => lw_18_b3 hs hf hB hsc hL hi hxs hop hx (b (Or.inr (Or.inr (Or.inr (Or.inl c3))))) c0 c1 c2 c3 K⟩
  rcases Classical.em (xs (i + 3) < 0) with c4 | c4
  · exact ⟨_, _, _, T_th h 1, fun R K => lw_18_b4 hs hf hB hsc hL hi hxs hop hx (b (Or.inr (Or.inr (Or.inr (Or.inr (Or.inl c4)))))) c0 c1 c2 c3 c4 K⟩
  rcases Classical.em (xs (i + 3) ≤ (255 : Int32)) with c5 | c5
  · refine ⟨_, _, _, T_pl h 0 _, fun R K => lw_18_ok hs hf hB hsc hL hi hxs hop (lgu (frame_eq _ _ _ _)) ?_ c0 c1 c2 c3 c4 c5 K⟩
    unfold sp_125
    rw [if_neg c0, if_neg c1, if_neg c2, if_neg c3, if_neg c4, if_neg (Int32.not_lt.mpr c5)]
    decide
  · exact ⟨_, _, _, T_th h 1, fun R K => lw_18_b5 hs hf hB hsc hL hi hxs hop hx (b (Or.inr (Or.inr (Or.inr (Or.inr (Or.inr (Int32.not_le.mp c5))))))) c0 c1 c2 c3 c4 c5 K⟩
set_option maxRecDepth 4000 in
theorem tt_19 {n K L P Q t i : Nat} {xs : Nat → Int32} {c : Nat × Nat} {fi : FI} {fl : FL} {r : xm_I → Nat → Option xm_I} (hn : n ≤ 6) (h : Tn n K L xs P Q t c fi fl r) (hsc : (en n L).1 (40, 0, 0) = (110, L)) (hL : L < 100000) (hi : i + 5 ≤ L) (hx : 200 ≤ ((en n L).1 ((en n L).2.2 c.1)).1) (hop : xs i &&& 31 = 19) : TT n K L xs P Q t i c fi fl r := by
  obtain ⟨⟨hs, -⟩, hf, hB, hxs, ρ, -, hR⟩ := id h
  have hN := hR.2.2.2.2.2.2
  exact ⟨_, _, _, T_p0 h 0, fun R K => lw_19_l hs hf hB hsc hL hi hxs hop (by rw [sound_eq]) K⟩
set_option maxRecDepth 4000 in
theorem tt_20 {n K L P Q t i : Nat} {xs : Nat → Int32} {c : Nat × Nat} {fi : FI} {fl : FL} {r : xm_I → Nat → Option xm_I} (hn : n ≤ 6) (h : Tn n K L xs P Q t c fi fl r) (hsc : (en n L).1 (40, 0, 0) = (110, L)) (hL : L < 100000) (hi : i + 5 ≤ L) (hx : 200 ≤ ((en n L).1 ((en n L).2.2 c.1)).1) (hop : xs i &&& 31 = 20) : TT n K L xs P Q t i c fi fl r := by
  obtain ⟨⟨hs, -⟩, hf, hB, hxs, ρ, -, hR⟩ := id h
  have hN := hR.2.2.2.2.2.2
  exact ⟨_, _, _, T_id h, fun R K => lw_20_d hs hf hB hsc hL hi hxs hop K⟩
set_option maxRecDepth 4000 in
theorem tt_21 {n K L P Q t i : Nat} {xs : Nat → Int32} {c : Nat × Nat} {fi : FI} {fl : FL} {r : xm_I → Nat → Option xm_I} (hn : n ≤ 6) (h : Tn n K L xs P Q t c fi fl r) (hsc : (en n L).1 (40, 0, 0) = (110, L)) (hL : L < 100000) (hi : i + 5 ≤ L) (hx : 200 ≤ ((en n L).1 ((en n L).2.2 c.1)).1) (hop : xs i &&& 31 = 21) : TT n K L xs P Q t i c fi fl r := by
  obtain ⟨⟨hs, -⟩, hf, hB, hxs, ρ, -, hR⟩ := id h
  have hN := hR.2.2.2.2.2.2
  exact ⟨_, _, _, T_id h, fun R K => lw_21_d hs hf hB hsc hL hi hxs hop K⟩
set_option maxRecDepth 4000 in
theorem tt_22 {n K L P Q t i : Nat} {xs : Nat → Int32} {c : Nat × Nat} {fi : FI} {fl : FL} {r : xm_I → Nat → Option xm_I} (hn : n ≤ 6) (h : Tn n K L xs P Q t c fi fl r) (hsc : (en n L).1 (40, 0, 0) = (110, L)) (hL : L < 100000) (hi : i + 5 ≤ L) (hx : 200 ≤ ((en n L).1 ((en n L).2.2 c.1)).1) (hop : xs i &&& 31 = 22) : TT n K L xs P Q t i c fi fl r := by
  obtain ⟨⟨hs, -⟩, hf, hB, hxs, ρ, -, hR⟩ := id h
  have hN := hR.2.2.2.2.2.2
  exact ⟨_, _, _, T_id h, fun R K => lw_22_d hs hf hB hsc hL hi hxs hop K⟩
set_option maxRecDepth 4000 in
theorem tt_23 {n K L P Q t i : Nat} {xs : Nat → Int32} {c : Nat × Nat} {fi : FI} {fl : FL} {r : xm_I → Nat → Option xm_I} (hn : n ≤ 6) (h : Tn n K L xs P Q t c fi fl r) (hsc : (en n L).1 (40, 0, 0) = (110, L)) (hL : L < 100000) (hi : i + 5 ≤ L) (hx : 200 ≤ ((en n L).1 ((en n L).2.2 c.1)).1) (hop : xs i &&& 31 = 23) : TT n K L xs P Q t i c fi fl r := by
  obtain ⟨⟨hs, -⟩, hf, hB, hxs, ρ, -, hR⟩ := id h
  have hN := hR.2.2.2.2.2.2
  exact ⟨_, _, _, T_id h, fun R K => lw_23_d hs hf hB hsc hL hi hxs hop K⟩
set_option maxRecDepth 4000 in
theorem tt_24 {n K L P Q t i : Nat} {xs : Nat → Int32} {c : Nat × Nat} {fi : FI} {fl : FL} {r : xm_I → Nat → Option xm_I} (hn : n ≤ 6) (h : Tn n K L xs P Q t c fi fl r) (hsc : (en n L).1 (40, 0, 0) = (110, L)) (hL : L < 100000) (hi : i + 5 ≤ L) (hx : 200 ≤ ((en n L).1 ((en n L).2.2 c.1)).1) (hop : xs i &&& 31 = 24) : TT n K L xs P Q t i c fi fl r := by
  obtain ⟨⟨hs, -⟩, hf, hB, hxs, ρ, -, hR⟩ := id h
  have hN := hR.2.2.2.2.2.2
  exact ⟨_, _, _, T_id h, fun R K => lw_24_d hs hf hB hsc hL hi hxs hop K⟩
set_option maxRecDepth 4000 in
theorem tt_25 {n K L P Q t i : Nat} {xs : Nat → Int32} {c : Nat × Nat} {fi : FI} {fl : FL} {r : xm_I → Nat → Option xm_I} (hn : n ≤ 6) (h : Tn n K L xs P Q t c fi fl r) (hsc : (en n L).1 (40, 0, 0) = (110, L)) (hL : L < 100000) (hi : i + 5 ≤ L) (hx : 200 ≤ ((en n L).1 ((en n L).2.2 c.1)).1) (hop : xs i &&& 31 = 25) : TT n K L xs P Q t i c fi fl r := by
  obtain ⟨⟨hs, -⟩, hf, hB, hxs, ρ, -, hR⟩ := id h
  have hN := hR.2.2.2.2.2.2
  exact ⟨_, _, _, T_id h, fun R K => lw_25_d hs hf hB hsc hL hi hxs hop K⟩
set_option maxRecDepth 4000 in
theorem tt_26 {n K L P Q t i : Nat} {xs : Nat → Int32} {c : Nat × Nat} {fi : FI} {fl : FL} {r : xm_I → Nat → Option xm_I} (hn : n ≤ 6) (h : Tn n K L xs P Q t c fi fl r) (hsc : (en n L).1 (40, 0, 0) = (110, L)) (hL : L < 100000) (hi : i + 5 ≤ L) (hx : 200 ≤ ((en n L).1 ((en n L).2.2 c.1)).1) (hop : xs i &&& 31 = 26) : TT n K L xs P Q t i c fi fl r := by
  obtain ⟨⟨hs, -⟩, hf, hB, hxs, ρ, -, hR⟩ := id h
  have hN := hR.2.2.2.2.2.2
  exact ⟨_, _, _, T_id h, fun R K => lw_26_d hs hf hB hsc hL hi hxs hop K⟩
set_option maxRecDepth 4000 in
theorem tt_27 {n K L P Q t i : Nat} {xs : Nat → Int32} {c : Nat × Nat} {fi : FI} {fl : FL} {r : xm_I → Nat → Option xm_I} (hn : n ≤ 6) (h : Tn n K L xs P Q t c fi fl r) (hsc : (en n L).1 (40, 0, 0) = (110, L)) (hL : L < 100000) (hi : i + 5 ≤ L) (hx : 200 ≤ ((en n L).1 ((en n L).2.2 c.1)).1) (hop : xs i &&& 31 = 27) : TT n K L xs P Q t i c fi fl r := by
  obtain ⟨⟨hs, -⟩, hf, hB, hxs, ρ, -, hR⟩ := id h
  have hN := hR.2.2.2.2.2.2
  exact ⟨_, _, _, T_id h, fun R K => lw_27_d hs hf hB hsc hL hi hxs hop K⟩
set_option maxRecDepth 4000 in
theorem tt_28 {n K L P Q t i : Nat} {xs : Nat → Int32} {c : Nat × Nat} {fi : FI} {fl : FL} {r : xm_I → Nat → Option xm_I} (hn : n ≤ 6) (h : Tn n K L xs P Q t c fi fl r) (hsc : (en n L).1 (40, 0, 0) = (110, L)) (hL : L < 100000) (hi : i + 5 ≤ L) (hx : 200 ≤ ((en n L).1 ((en n L).2.2 c.1)).1) (hop : xs i &&& 31 = 28) : TT n K L xs P Q t i c fi fl r := by
  obtain ⟨⟨hs, -⟩, hf, hB, hxs, ρ, -, hR⟩ := id h
  have hN := hR.2.2.2.2.2.2
  exact ⟨_, _, _, T_id h, fun R K => lw_28_d hs hf hB hsc hL hi hxs hop K⟩
set_option maxRecDepth 4000 in
theorem tt_29 {n K L P Q t i : Nat} {xs : Nat → Int32} {c : Nat × Nat} {fi : FI} {fl : FL} {r : xm_I → Nat → Option xm_I} (hn : n ≤ 6) (h : Tn n K L xs P Q t c fi fl r) (hsc : (en n L).1 (40, 0, 0) = (110, L)) (hL : L < 100000) (hi : i + 5 ≤ L) (hx : 200 ≤ ((en n L).1 ((en n L).2.2 c.1)).1) (hop : xs i &&& 31 = 29) : TT n K L xs P Q t i c fi fl r := by
  obtain ⟨⟨hs, -⟩, hf, hB, hxs, ρ, -, hR⟩ := id h
  have hN := hR.2.2.2.2.2.2
  exact ⟨_, _, _, T_id h, fun R K => lw_29_d hs hf hB hsc hL hi hxs hop K⟩
set_option maxRecDepth 4000 in
theorem tt_30 {n K L P Q t i : Nat} {xs : Nat → Int32} {c : Nat × Nat} {fi : FI} {fl : FL} {r : xm_I → Nat → Option xm_I} (hn : n ≤ 6) (h : Tn n K L xs P Q t c fi fl r) (hsc : (en n L).1 (40, 0, 0) = (110, L)) (hL : L < 100000) (hi : i + 5 ≤ L) (hx : 200 ≤ ((en n L).1 ((en n L).2.2 c.1)).1) (hop : xs i &&& 31 = 30) : TT n K L xs P Q t i c fi fl r := by
  obtain ⟨⟨hs, -⟩, hf, hB, hxs, ρ, -, hR⟩ := id h
  have hN := hR.2.2.2.2.2.2
  exact ⟨_, _, _, T_id h, fun R K => lw_30_d hs hf hB hsc hL hi hxs hop K⟩
set_option maxRecDepth 4000 in
theorem tt_31 {n K L P Q t i : Nat} {xs : Nat → Int32} {c : Nat × Nat} {fi : FI} {fl : FL} {r : xm_I → Nat → Option xm_I} (hn : n ≤ 6) (h : Tn n K L xs P Q t c fi fl r) (hsc : (en n L).1 (40, 0, 0) = (110, L)) (hL : L < 100000) (hi : i + 5 ≤ L) (hx : 200 ≤ ((en n L).1 ((en n L).2.2 c.1)).1) (hop : xs i &&& 31 = 31) : TT n K L xs P Q t i c fi fl r := by
  obtain ⟨⟨hs, -⟩, hf, hB, hxs, ρ, -, hR⟩ := id h
  have hN := hR.2.2.2.2.2.2
  exact ⟨_, _, _, T_id h, fun R K => lw_31_d hs hf hB hsc hL hi hxs hop K⟩
set_option maxRecDepth 4000 in
theorem op_of (x : Int32) : ∃ m, m < 32 ∧ x &&& 31 = nI m := by
  refine ⟨x.toBitVec.toNat % 32, Nat.mod_lt _ (by decide), ?_⟩
  apply Int32.toBitVec_inj.mp
  apply BitVec.eq_of_toNat_eq
  rw [Int32.toBitVec_and, BitVec.toNat_and]
  show x.toBitVec.toNat &&& 31 = (BitVec.ofNat 32 (x.toBitVec.toNat % 32)).toNat
  rw [BitVec.toNat_ofNat, Nat.mod_eq_of_lt (Nat.lt_trans (Nat.mod_lt _ (by decide)) (by decide))]
  exact Nat.and_two_pow_sub_one_eq_mod (n := 5) _
set_option maxRecDepth 4000 in
theorem tn_all {n K L P Q t i : Nat} {xs : Nat → Int32} {c : Nat × Nat} {fi : FI} {fl : FL} {r : xm_I → Nat → Option xm_I} (hn : n ≤ 6) (h : Tn n K L xs P Q t c fi fl r) (hsc : (en n L).1 (40, 0, 0) = (110, L)) (hL : L < 100000) (hi : i + 5 ≤ L) (hx : 200 ≤ ((en n L).1 ((en n L).2.2 c.1)).1) (hK : 0 < K) (hK8 : K < 16) (ht : t < 1000000) : TT n K L xs P Q t i c fi fl r := by
  obtain ⟨m, hm, e⟩ := op_of (xs i)
  match m, hm, e with
  | 0, _, e => exact tt_0 hn h hsc hL hi hx e
  | 1, _, e => exact tt_1 h hsc hL hi e
  | 2, _, e => exact tt_2 h hsc hL hi hx e
  | 3, _, e => exact tt_3 hn h hsc hL hi hx e
  | 4, _, e => exact tt_4 hn h hsc hL hi hx e
  | 5, _, e => exact tt_5 hn h hsc hL hi hx hK hK8 ht e
  | 6, _, e => exact tt_6 hn h hsc hL hi hx e
  | 7, _, e => exact tt_7 hn h hsc hL hi hx e
  | 8, _, e => exact tt_8 hn h hsc hL hi hx e
  | 9, _, e => exact tt_9 hn h hsc hL hi hx e
  | 10, _, e => exact tt_10 hn h hsc hL hi hx e
  | 11, _, e => exact tt_11 hn h hsc hL hi hx e
  | 12, _, e => exact tt_12 hn h hsc hL hi hx e
  | 13, _, e => exact tt_13 hn h hsc hL hi hx e
  | 14, _, e => exact tt_14 hn h hsc hL hi hx e
  | 15, _, e => exact tt_15 hn h hsc hL hi hx e
  | 16, _, e => exact tt_16 hn h hsc hL hi hx e
  | 17, _, e => exact tt_17 hn h hsc hL hi hx e
  | 18, _, e => exact tt_18 hn h hsc hL hi hx e
  | 19, _, e => exact tt_19 hn h hsc hL hi hx e
  | 20, _, e => exact tt_20 hn h hsc hL hi hx e
  | 21, _, e => exact tt_21 hn h hsc hL hi hx e
  | 22, _, e => exact tt_22 hn h hsc hL hi hx e
  | 23, _, e => exact tt_23 hn h hsc hL hi hx e
  | 24, _, e => exact tt_24 hn h hsc hL hi hx e
  | 25, _, e => exact tt_25 hn h hsc hL hi hx e
  | 26, _, e => exact tt_26 hn h hsc hL hi hx e
  | 27, _, e => exact tt_27 hn h hsc hL hi hx e
  | 28, _, e => exact tt_28 hn h hsc hL hi hx e
  | 29, _, e => exact tt_29 hn h hsc hL hi hx e
  | 30, _, e => exact tt_30 hn h hsc hL hi hx e
  | 31, _, e => exact tt_31 hn h hsc hL hi hx e
  | m + 32, hm, _ => exact absurd hm (by omega)
