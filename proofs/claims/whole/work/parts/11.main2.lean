/-! Calls within a walk; the theorem. -/
theorem xm_warm {s0 U : State} {A A' : Array Value} {w : Cond} (hW : s0.WarmedH U.vm) (hg : xm_good w = true) (h : w.before A s0 = true) : w.before A' U = true := by
  unfold xm_good at hg
  rw [Bool.or_eq_true] at hg
  rcases hg with hg | hg
  · rw [Bool.and_eq_true] at hg
    have h1 := Cond.onTables_warmH (T := U) (args' := A') hW hg.1 hg.2 h
    rwa [State.setVm_self] at h1
  · split at hg
    · exact word_at hW (Or.inr ⟨_, rfl⟩) h
    · exact va_AO.use (va_AO.moved hW.alike (va_AO.of h))
    · cases hg
section XN
variable {l : Launch} {p : Program} {e : Env} {R : Room} {s : State} {m : MethodId} {args : Array Value} {below : List Frame} {meth : Method} {c : Code} {Q : State → Prop}
variable {D : va_G} {cA : Nat → ClassId} {s0 : State} {b n : Nat} {xs : Nat → Int32} {E : xm_E} {md : Bool} {j : Nat} {h0 : xm_H}
theorem xn_Y {y : Nat} {A : Array Value} {U : State} (h : (tb_w y).before A U = true) : ∃ (mk : MethodId) (methY : Method) (cY : Code), U.methodNamed? (tb_y y) = some mk ∧ U.vm.method? mk = some methY ∧ methY.code = some cY ∧ cY.code = tb_cd y ∧ cY.maxLocals = tb_ml y ∧ cY.exceptionTable.toList = tableOf (tb_h y) ∧ methY.sig.returnType = tb_ret y ∧ methY.locks = false ∧ parseMethodDescriptor (tb_y y).desc = some methY.sig := by
  unfold tb_w at h
  split at h
  · rename_i h0
    obtain ⟨mk, hn⟩ := Cond.code_named h
    obtain ⟨methM, cM, h1, h2, h3, h4, h5, h6, h7, h8⟩ := Cond.code_spec hn h
    refine ⟨mk, methM, cM, hn, h1, h2, h3, h4, ?_, h5, h6, h8⟩
    have hz : cM.exceptionTable.size = 0 := by simpa [Array.isEmpty] using h7
    rw [h0]
    exact List.eq_nil_of_length_eq_zero (by simpa using hz)
  · obtain ⟨mk, methM, cM, hn, h1, h2, h3, h4, h5, h6, h7, h8⟩ := Cond.codeWith_spec h
    refine ⟨mk, methM, cM, hn, h1, h2, h3, h4, ?_, h6, h7, h8⟩
    rw [← h5, table_eq]
theorem xn_st (L : xm_I → Nat) (k : Nat) (st : List xm_V) : st.map (xm_v L) = ((xm_pops k st).map (xm_v L)).reverse ++ (st.drop k).map (xm_v L) := by
  unfold xm_pops
  rw [← List.map_reverse, List.reverse_reverse, ← List.map_append, List.take_append_drop]
theorem xn_len (L : xm_I → Nat) {k : Nat} {st : List xm_V} (h : k ≤ st.length) : ((xm_pops k st).map (xm_v L)).length = k := by
  unfold xm_pops
  rw [List.length_map, List.length_reverse, List.length_take]
  omega
set_option maxHeartbeats 4000000 in
theorem xn_I (hB : xm_B p s m args meth c D cA j) {h : xm_H} {H : Heap} (hw : xm_w D cA s0 b n xs E h H) {pc : Nat} {st : List xm_V} {ins : Instr} (hd : decode (tb_cd j) pc = .ok (ins, 3)) {q : Nat × List xm_V × List xm_V} (hq : xk_K E j ins st h q) {ls : Array Slot} {locs : List Loc} {cells slots : Nat} {T : State} (hT : T.heap = H)
    (X : Stand p l e R s m args below meth c T locs cells slots) : q.1 < tb_n ∧ xc_I p l e R s m args below meth c T locs cells slots (F0 m pc ls (st.map (xm_v (xm_a E s0.heap.size b)))) (q.2.2.map (xm_v (xm_a E s0.heap.size b))) (tb_y q.1) (q.2.1.map (xm_v (xm_a E s0.heap.size b))).toArray := by
  obtain ⟨hx, hb, hml, hlk, hown, hts, hK, hr, hi⟩ := hB
  obtain ⟨y, as, r⟩ := q
  have link : ∀ i, (Cond.methodLink (tb_cn (tb_ow j)) i (tb_y y) ∈ tb_W ∨ ∃ host, Cond.methodLinkNest (tb_cn (tb_ow j)) i (tb_y y) host ∈ tb_W) → xc_K s args (tb_cn (tb_ow j)) i (tb_y y) := by
    intro i h9
    rcases h9 with h9 | ⟨host, h9⟩
    · exact Or.inl (hts _ h9)
    · exact Or.inr ⟨host, hts _ h9⟩
  have hYy : ∀ y, y < tb_n → xc_Y s (tb_y y) (tb_ml y) := by
    intro y hy
    obtain ⟨mk, methY, cY, n1, n2, n3, -, n5, -, -, -, n9⟩ := xn_Y (y := y) (hts _ (tb_y_ok y hy).2.2.2.2.2.1)
    exact ⟨mk, methY, cY, n1, n2, n3, n5, n9⟩
  rcases hq with ⟨i, rfl, hm1, hlen, e1, e2⟩ | ⟨i, a, rfl, hm1, hdr, hok, hkc, e1⟩ | ⟨i, a, rfl, hm1, hdr, e1⟩
  · obtain ⟨hy, hl, hst⟩ := tb_m_s _ _ _ hm1
    obtain ⟨y1, y2, y3, y4, y5, y6, y7⟩ := tb_y_ok y hy
    refine ⟨hy, ?_⟩
    dsimp only at e1 e2 hlen ⊢
    subst e1; subst e2
    exact xc_iS X hx hown (link i hl) (hts _ hst) (hts _ y5) (hYy y hy) y3 rfl y4 (xn_len _ hlen) (xn_st _ _ _) (by rw [hb]; exact hd)
  · obtain ⟨hy, hl, hin, hse, hcl⟩ := tb_m_v _ _ _ hm1
    obtain ⟨y1, y2, y3, y4, y5, y6, y7⟩ := tb_y_ok y hy
    refine ⟨hy, ?_⟩
    dsimp only at e1 hdr hok hkc ⊢
    subst e1
    have hnc := xm_nc
    have hlt : tb_np y ≤ st.length := by
      have h9 := congrArg List.length hdr
      rw [List.length_drop, List.length_cons] at h9
      omega
    obtain ⟨cell, g1, g2, g3, -⟩ := xs_obj hw hkc hok
    have hLa : xm_a E s0.heap.size b a = s0.heap.size + E.2.1 a := xs_L (by rw [hok.1]; omega)
    have hcls := (hK.1 _ _ (tb_q_ok _ hkc)).2.1
    refine xc_iV (C := tb_C (tb_kc y)) (b := xm_a E s0.heap.size b a) (cellB := cell) X hx hown (link i hl) (hts _ hin) (hts _ hse) (hYy y hy) y3 (by rw [hT, hLa]; exact g1) (by rw [g3]; rfl) (by rw [g2]; exact hcls) rfl y4 (xn_len _ hlt) ?_ (by rw [hb]; exact hd)
    show st.map _ = _
    rw [xn_st _ (tb_np y) st, hdr]
    rfl
  · obtain ⟨hy, hl, hin, hnm, htb, hrt⟩ := tb_m_i _ _ _ hm1
    obtain ⟨y1, y2, y3, y4, y5, y6, y7⟩ := tb_y_ok y hy
    refine ⟨hy, ?_⟩
    dsimp only at e1 hdr ⊢
    subst e1
    have hlt : tb_np y ≤ st.length := by
      have h9 := congrArg List.length hdr
      rw [List.length_drop, List.length_cons] at h9
      omega
    have hcw : (Cond.code (tb_y y) (tb_cd y) (tb_ml y) none).before args s = true := by
      have h9 := hts _ y6
      unfold tb_w at h9
      rw [if_pos htb, hrt] at h9
      exact h9
    refine xc_iI (b := xm_a E s0.heap.size b a) X hx hown (link i hl) hnm (hts _ hin) hcw y3 rfl y4 (xn_len _ hlt) ?_ (by rw [hb]; exact hd)
    show st.map _ = _
    rw [xn_st _ (tb_np y) st, hdr]
    rfl
set_option maxHeartbeats 4000000 in
/-- a call within a walk -/
theorem xn_call {d : Nat} (hB : xm_B p s m args meth c D cA j) (hadm : e.platform.magicAccessors = ({} : Platform).magicAccessors) (hNA : xm_NA s) (hall : ∀ q ∈ tb_h j, q.2.2.2 ≠ 0 ∧ ∃ x, tb_x (tb_ow j) q.2.2.2 = some x ∧ x < tb_nx) (htab : c.exceptionTable.toList = tableOf (tb_h j)) (hgood : ∀ w ∈ tb_W, xm_good w = true) (hW0 : s0.WarmedH s.vm) (hR : d + 2 ≤ R.frames ∧ 36 * d + 36 ≤ R.locals)
    {pc : Nat} {lv : xm_L} {st : List xm_V} {h : xm_H} {ins : Instr} {len : Nat} (hd : decode (tb_cd j) pc = .ok (ins, len)) (hlen : len = xm_len ins ∨ xm_len ins = 0) {q : Nat × List xm_V × List xm_V} (hex : xm_ex E md j pc ins len lv st h = some (.inr (.inr q)))
    {md' : Bool} {o : xm_O} (hmd : md' = true → md = true) (hM : xm_M l D cA s0 b n xs E d md' q.1 q.2.1 h o) (hko : xk_C md' h o) (hcap : o.2.1.1 ≤ h0.1.1 + R.cells ∧ o.2.1.2 ≤ h0.1.2 + R.slots)
    (kk : match o.1 with
      | .inl v => xm_Wd p l e R s m args below meth c Q D cA s0 b n xs E md h0 (tb_ml j) (pc + 3) lv (v.toList ++ q.2.2) o.2
      | .inr x => x.2 < tb_nx ∧ ∃ t : Nat, xm_hd j pc x.2 = some t ∧ xm_Wd p l e R s m args below meth c Q D cA s0 b n xs E md h0 (tb_ml j) t lv [xm_r x.1] o.2) :
    xm_Wd p l e R s m args below meth c Q D cA s0 b n xs E md h0 (tb_ml j) pc lv st h := by
  intro ls H locs cells slots hN
  have hB' := hB
  obtain ⟨hx, hb, hml, hlk, hown, hts, hK, hr, hi⟩ := hB'
  obtain ⟨hw8, hq⟩ := xk_call hex
  have hl3 : len = 3 := by
    rcases hq with ⟨i, rfl, -⟩ | ⟨i, a, rfl, -⟩ | ⟨i, a, rfl, -⟩ <;> exact hlen.resolve_right (show ¬ ((3 : Nat) = 0) by decide)
  subst hl3
  obtain ⟨hlv, hw, h1, h2, h3, h4⟩ := hN
  have hqn : q.1 < tb_n := by
    rcases hq with ⟨i, -, hm1, -⟩ | ⟨i, a, -, hm1, -⟩ | ⟨i, a, -, hm1, -⟩
    · exact (tb_m_s _ _ _ hm1).1
    · exact (tb_m_v _ _ _ hm1).1
    · exact (tb_m_i _ _ _ hm1).1
  obtain ⟨y1, y2, y3, y4, y5, y6, y7⟩ := tb_y_ok q.1 hqn
  obtain ⟨mk, methY, cY, n1, n2, n3, -, n5, -, -, -, n9⟩ := xn_Y (y := q.1) (hts _ y6)
  obtain ⟨k1, k2, k3, k4⟩ := hko
  have hwt : ((q.2.2.map (xm_v (xm_a E s0.heap.size b))).map fun v => v.category).sum ≤ 8 := by rw [xm_map_cat]; exact hw8
  have hrm : xm_rm d (o.2.1.1 - h.1.1) (o.2.1.2 - h.1.2) = { frames := d + 1, cells := o.2.1.1 - h.1.1, slots := o.2.1.2 - h.1.2, locals := 36 * d } := rfl
  have frs : ∀ Lo, xm_fr s0 md' Lo → (∀ z ∈ locs ++ Lo, s0.heap.size ≤ z.base) ∧ (md = false → locs ++ Lo = []) := by
    intro Lo hLo
    refine ⟨fun z hz => ?_, fun hm0 => ?_⟩
    · rcases List.mem_append.mp hz with h9 | h9
      · exact h3 z h9
      · exact hLo.1 z h9
    · have hm' : md' = false := by
        cases h9 : md' with
        | false => rfl
        | true => rw [hmd h9] at hm0; cases hm0
      rw [h4 hm0, hLo.2 hm']
      rfl
  refine xc_W (g := F0 m pc ls (st.map (xm_v (xm_a E s0.heap.size b)))) (rest := q.2.2.map (xm_v (xm_a E s0.heap.size b))) (maxL := tb_ml q.1) (fun T hT X => (xn_I hB hw hd hq hT X).2) hM rfl (by rw [hml]; exact hlv.2.1) (by rw [hb]; exact hd) ⟨mk, methY, cY, n1, n2, n3, n5, n9⟩ (hts _ y5) (fun U hU => xm_warm hU (hgood _ y6) (hts _ y6)) (by rw [hrm]; show d + 1 + 1 ≤ _; omega) ?_ (by rw [hrm]; show cells + (o.2.1.1 - h.1.1) ≤ _; omega) (by rw [hrm]; show slots + (o.2.1.2 - h.1.2) ≤ _; omega) (fun U hU hWU => ⟨rfl, by rw [hU]; exact hw, State.WarmedH.trans hW0 hWU⟩) ?_ ?_
  · rw [hrm]
    show 2 * (F0 m pc ls (st.map (xm_v (xm_a E s0.heap.size b)))).monitorRoom + _ + (tb_ml q.1 + 11) + (36 * d) ≤ _
    have hm0 : (F0 m pc ls (st.map (xm_v (xm_a E s0.heap.size b)))).monitorRoom = 0 := rfl
    rw [hm0]
    omega
  · intro st' t v Lo hst' hQ hWt hLo
    obtain ⟨hoc, hwt'⟩ := hQ
    rcases o with ⟨v' | x, h'⟩
    · have hv : Outcome.returned v = .returned (v'.map (xm_v (xm_a E s0.heap.size b))) := hoc
      cases hv
      obtain ⟨f1, f2⟩ := frs Lo hLo
      have go := kk ls t.heap (locs ++ Lo) (cells + (h'.1.1 - h.1.1)) (slots + (h'.1.2 - h.1.2)) ⟨hlv, hwt', by show h'.1.1 = _; dsimp only at k1; omega, by show h'.1.2 = _; dsimp only at k2; omega, f1, f2⟩
      rw [List.map_append] at go
      have hvl : (v'.toList.map (xm_v (xm_a E s0.heap.size b))) = (v'.map (xm_v (xm_a E s0.heap.size b))).toList := by cases v' <;> rfl
      rw [hvl] at go
      exact go
    · obtain ⟨hv, -⟩ := hoc
      cases hv
  · intro st' t x Lo hst' hQ hWt hLo
    obtain ⟨hoc, hwt'⟩ := hQ
    rcases o with ⟨v' | x', h'⟩
    · have hv : Outcome.threw x = .returned (v'.map (xm_v (xm_a E s0.heap.size b))) := hoc
      cases hv
    · obtain ⟨hv, ce, g1, g2, g3⟩ := hoc
      cases hv
      obtain ⟨hx3, pc', hh, kk⟩ := kk
      obtain ⟨f1, f2⟩ := frs Lo hLo
      have hfc : s.vm.findClass (tb_xn x'.2) = some ce.cls := by rw [← g3]; exact (hWt.alike.findClass _ _).symm
      refine ⟨ce, pc', g1, (fun z h9 => by rw [g2] at h9; cases h9), Vm.classAt_of_findClass hfc, ?_, ?_⟩
      · rw [htab]
        exact xk_hd hts hown hadm hNA hall hx3 hfc hh
      · exact kk ls t.heap (locs ++ Lo) (cells + (h'.1.1 - h.1.1)) (slots + (h'.1.2 - h.1.2)) ⟨hlv, hwt', by show h'.1.1 = _; dsimp only at k1; omega, by show h'.1.2 = _; dsimp only at k2; omega, f1, f2⟩
end XN
