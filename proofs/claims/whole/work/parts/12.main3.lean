/-! The theorem: what the small machine says of a call is a contract of the method. -/
section XT
variable {l : Launch} {p : Program} {e : Env} {R : Room} {s : State} {m : MethodId} {args : Array Value} {below : List Frame} {meth : Method} {c : Code} {Q : State → Prop}
variable {D : va_G} {cA : Nat → ClassId} {s0 : State} {b n : Nat} {xs : Nat → Int32} {E : xm_E} {md : Bool} {j : Nat} {h0 : xm_H}
set_option maxHeartbeats 4000000 in
theorem xt_kind {pc : Nat} {lv : xm_L} {st : List xm_V} {h : xm_H} {ins : Instr} {len : Nat} {q : xm_F} (hex : xm_ex E md j pc ins len lv st h = some (.inl q)) :
    xm_pl ins = true ∨ xm_pb ins = true ∨ (∃ i, ins = .getfield i) ∨ (∃ i, ins = .putfield i) ∨ (ins = .iaload ∨ ins = .laload ∨ ins = .baload ∨ ins = .aaload ∨ ins = .arraylength) ∨ (ins = .iastore ∨ ins = .lastore ∨ ins = .bastore ∨ ins = .aastore) ∨
      ((∃ i, ins = .new i) ∨ (∃ t, ins = .newarray t) ∨ ∃ i, ins = .anewarray i) ∨ ∃ i, ins = .invokespecial i := by
  cases ins
  all_goals first
    | exact Or.inl rfl
    | exact Or.inr (Or.inl rfl)
    | exact Or.inr (Or.inr (Or.inl ⟨_, rfl⟩))
    | exact Or.inr (Or.inr (Or.inr (Or.inl ⟨_, rfl⟩)))
    | exact Or.inr (Or.inr (Or.inr (Or.inr (Or.inl (Or.inl rfl)))))
    | exact Or.inr (Or.inr (Or.inr (Or.inr (Or.inl (Or.inr (Or.inl rfl))))))
    | exact Or.inr (Or.inr (Or.inr (Or.inr (Or.inl (Or.inr (Or.inr (Or.inl rfl)))))))
    | exact Or.inr (Or.inr (Or.inr (Or.inr (Or.inl (Or.inr (Or.inr (Or.inr (Or.inl rfl))))))))
    | exact Or.inr (Or.inr (Or.inr (Or.inr (Or.inl (Or.inr (Or.inr (Or.inr (Or.inr rfl))))))))
    | exact Or.inr (Or.inr (Or.inr (Or.inr (Or.inr (Or.inl (Or.inl rfl))))))
    | exact Or.inr (Or.inr (Or.inr (Or.inr (Or.inr (Or.inl (Or.inr (Or.inl rfl)))))))
    | exact Or.inr (Or.inr (Or.inr (Or.inr (Or.inr (Or.inl (Or.inr (Or.inr (Or.inl rfl))))))))
    | exact Or.inr (Or.inr (Or.inr (Or.inr (Or.inr (Or.inl (Or.inr (Or.inr (Or.inr rfl))))))))
    | exact Or.inr (Or.inr (Or.inr (Or.inr (Or.inr (Or.inr (Or.inl (Or.inl ⟨_, rfl⟩)))))))
    | exact Or.inr (Or.inr (Or.inr (Or.inr (Or.inr (Or.inr (Or.inl (Or.inr (Or.inl ⟨_, rfl⟩))))))))
    | exact Or.inr (Or.inr (Or.inr (Or.inr (Or.inr (Or.inr (Or.inl (Or.inr (Or.inr ⟨_, rfl⟩))))))))
    | exact Or.inr (Or.inr (Or.inr (Or.inr (Or.inr (Or.inr (Or.inr ⟨_, rfl⟩))))))
    | (exfalso
       simp only [xm_ex] at hex
       repeat' split at hex
       all_goals cases hex)
set_option maxHeartbeats 4000000 in
theorem xt_walk {d : Nat} (hE : xm_Eok E) (hb0 : b < s0.heap.size) (hB : xm_B p s m args meth c D cA j) (hX : va_X b n xs s s0.heap) (htr : e.platform.stackTraces = false) (hadm : e.platform.magicAccessors = ({} : Platform).magicAccessors) (hXW : xm_XW s0) (hNA : xm_NA s) (hall : ∀ q ∈ tb_h j, q.2.2.2 ≠ 0 ∧ ∃ x, tb_x (tb_ow j) q.2.2.2 = some x ∧ x < tb_nx) (htab : c.exceptionTable.toList = tableOf (tb_h j)) (hgood : ∀ w ∈ tb_W, xm_good w = true)
    (hW0 : s0.WarmedH s.vm) (hs0 : ∀ q, q < s0.heap.size → s.heap[q]? = s0.heap[q]?) (hsz0 : s.heap.size = s0.heap.size + h0.1.1) (hR : d + 2 ≤ R.frames ∧ 36 * d + 36 ≤ R.locals) (ih : ∀ md' y as h o, xm_C E d md' y as h o → xm_M l D cA s0 b n xs E d md' y as h o) {o : xm_O} (hcap : o.2.1.1 ≤ h0.1.1 + R.cells ∧ o.2.1.2 ≤ h0.1.2 + R.slots) (ho : ∀ x, o.1 = .inr x → md = false ∧ 4 ≤ d) :
    ∀ (f pc : Nat) (lv : xm_L) (st : List xm_V) (h : xm_H), xm_R E (xm_C E d) md j f pc lv st h o → (md = false → h.1 = h0.1) → xm_Wd p l e R s m args below meth c (xm_Qf below s D cA s0 b n xs E md h0 o) D cA s0 b n xs E md h0 (tb_ml j) pc lv st h := by
  intro f
  induction f with
  | zero => intro pc lv st h hr; exact hr.elim
  | succ f ihf =>
    intro pc lv st h hr hmd0
    obtain ⟨ins, len, r, hd, hlen, hex, hr⟩ := hr
    rcases r with q | o' | q
    · have hr' : xm_R E (xm_C E d) md j f q.1 q.2.1 q.2.2.1 q.2.2.2 o := hr
      obtain ⟨m1, m2, -, -⟩ := xk_R (xk_Cd d) _ _ _ _ _ _ hr'
      have hmd1 : md = false → q.2.2.2.1 = h0.1 := by
        intro hm
        rcases xk_cnt hex with hc | ⟨hm', -⟩
        · rw [hc]; exact hmd0 hm
        · rw [hm] at hm'; cases hm'
      have kk := ihf _ _ _ _ hr' hmd1
      have hcq : q.2.2.2.1.1 ≤ h0.1.1 + R.cells ∧ q.2.2.2.1.2 ≤ h0.1.2 + R.slots := ⟨Nat.le_trans m1 hcap.1, Nat.le_trans m2 hcap.2⟩
      rcases xt_kind hex with hk | hk | ⟨i, rfl⟩ | ⟨i, rfl⟩ | hk | hk | hk | ⟨i, rfl⟩
      · exact xs_plain hB hd hlen hex hk kk
      · exact xs_br hB hd hlen hex hk kk
      · exact xs_get hB hd hlen hex kk
      · exact xs_put hE hb0 hB hd hlen hex kk
      · exact xs_ald hB hX hb0 hd hlen hex hk kk
      · exact xs_ast hE hb0 hB hd hlen hex hk kk
      · exact xs_new hE hb0 hB hd hlen hex hk hcq kk
      · exact xs_init hB ⟨by omega, by omega⟩ hd hlen hex kk
    · have hr' : o = o' := hr
      subst hr'
      rcases xk_out hex with ⟨hk, -⟩ | ⟨hm, i, x, rfl, rfl⟩
      · exact xs_ret hB hd hlen hex hk
      · have h9 := hmd0 hm
        have hc1 : h.1.1 + 1 ≤ h0.1.1 + R.cells := hcap.1
        have hc2 : h.1.2 + 6 ≤ h0.1.2 + R.slots := hcap.2
        rw [h9] at hc1 hc2
        have h4 := (ho _ rfl).2
        exact xs_throw hE hb0 hB htr hXW hW0 hs0 hsz0 htab hd hlen hex h9 ⟨by omega, by omega⟩ (by omega) (by omega)
    · obtain ⟨md', o', hmd', hCo, hr⟩ := hr
      have hko := xk_Cd d _ _ _ _ _ hCo
      rcases o' with ⟨v | x, h'⟩
      · have hr' : xm_R E (xm_C E d) md j f (pc + 3) lv (v.toList ++ q.2.2) h' o := hr
        obtain ⟨m1, m2, -, -⟩ := xk_R (xk_Cd d) _ _ _ _ _ _ hr'
        have hmd1 : md = false → h'.1 = h0.1 := by
          intro hm
          have hm' : md' = false := by
            cases h9 : md' with
            | false => rfl
            | true => rw [hmd' h9] at hm; cases hm
          exact ((hko.2.2.1 hm').1 v rfl).trans (hmd0 hm)
        exact xn_call hB hadm hNA hall htab hgood hW0 hR hd hlen hex hmd' (ih _ _ _ _ _ hCo) hko ⟨Nat.le_trans m1 hcap.1, Nat.le_trans m2 hcap.2⟩ (ihf _ _ _ _ hr' hmd1)
      · obtain ⟨hm, -, t, hh, hr⟩ := hr
        obtain ⟨m1, m2, -, -⟩ := xk_R (xk_Cd d) _ _ _ _ _ _ hr
        have hx3 : x.2 < tb_nx := xk_hdx hall hh
        exact xn_call hB hadm hNA hall htab hgood hW0 hR hd hlen hex hmd' (ih _ _ _ _ _ hCo) hko ⟨Nat.le_trans m1 hcap.1, Nat.le_trans m2 hcap.2⟩ ⟨hx3, t, hh, ihf _ _ _ _ hr (fun z => by rw [hm] at z; cases z)⟩
set_option maxHeartbeats 4000000 in
theorem xt_main {a0 : Array Value} (hE : xm_Eok E) (hb0 : b < s0.heap.size) (hX : va_X b n xs s0 s0.heap) (hts0 : ∀ w ∈ tb_W, w.before a0 s0 = true) (hK0 : va_K D tb_cl (tb_tys cA) s0) (htr : ∀ e : Env, l.admits e → e.platform.stackTraces = false) (hXW : xm_XW s0) (hNA : xm_NA s0) (hgood : ∀ w ∈ tb_W, xm_good w = true) :
    ∀ (d : Nat) (md : Bool) (y : Nat) (as : List xm_V) (h : xm_H) (o : xm_O), xm_C E d md y as h o → xm_M l D cA s0 b n xs E d md y as h o := by
  intro d
  induction d with
  | zero => intro md y as h o hC; exact hC.elim
  | succ d ih =>
    intro md j as h0 o hC
    obtain ⟨hj, hlen, h4d, f, hR⟩ := hC
    obtain ⟨k1, k2, k3, k4⟩ := xk_R (xk_Cd d) _ _ _ _ _ _ hR
    obtain ⟨y1, y2, y3, y4, y5, y6, y7⟩ := tb_y_ok j hj
    unfold xm_M xc_M
    refine MetFree.of_bodySF (code := tb_cd j) (maxLocals := tb_ml j) (ret := tb_ret j) y2 ?_ ?_
    · intro args s m h hn
      obtain ⟨mk, methY, cY, n1, n2, n3, n4, n5, -, n7, n8, -⟩ := xn_Y (y := j) (atoms_spec (ws := [tb_w j]) h _ List.mem_cons_self)
      cases hn.symm.trans n1
      exact ⟨methY, cY, n2, n3, n4, n5, n7, n8⟩
    · intro p e s m args below meth c s₁ B hml hP _
      obtain ⟨rfl, hw, hW0⟩ := hP
      have hX0 := Stand.of_body B
      have hh0 : s₁.heap = s.heap := by rw [B.state]; rfl
      obtain ⟨mk, methY, cY, n1, n2, n3, -, -, n6, -, -, -⟩ := xn_Y (y := j) (atoms_spec (ws := [tb_w j]) B.pre _ List.mem_cons_self)
      cases B.named.symm.trans n1
      cases B.method.symm.trans n2
      cases hX0.code.symm.trans n3
      have hpl : e.platform.magicAccessors = ({} : Platform).magicAccessors := by rw [B.admits.platform]
      have hNAs : xm_NA s := by
        intro x x' hx hx'
        obtain ⟨k, k', f1, f2, f3⟩ := hNA x x' hx hx'
        exact ⟨k, k', by rw [hW0.alike.findClass]; exact f1, by rw [hW0.alike.findClass]; exact f2, by rw [hW0.alike.assignable]; exact f3⟩
      have hB : xm_B p s m (as.map (xm_v (xm_a E s0.heap.size b))).toArray meth c D cA j :=
        ⟨B.exec, B.bytes, hml, B.notSynchronized, by rw [← y1]; exact findClass_of_methodNamed B.named, fun w hw => xm_warm hW0 (hgood w hw) (hts0 w hw), va_K.moved hW0.alike hK0, B.returns, fun hi => (name_of_methodNamed B.named B.method).1.trans (tb_ini_ok j hj hi)⟩
      have walk := xt_walk (l := l) (p := p) (e := e) (R := (headSpec [tb_w j] (xm_rm (d + 1) (o.2.1.1 - h0.1.1) (o.2.1.2 - h0.1.2))).room) (below := below) (md := md) (h0 := h0) (o := o) hE hb0 hB (va_X.moved hW0.alike hX) (htr e B.admits) hpl hXW hNAs (tb_h_ok j hj) n6 hgood hW0 hw.2.1 hw.1 (d := d)
        ⟨by show d + 2 ≤ d + 1 + 1; omega, by show 36 * d + 36 ≤ 36 * (d + 1); omega⟩ ih ⟨by show _ ≤ h0.1.1 + (o.2.1.1 - h0.1.1); omega, by show _ ≤ h0.1.2 + (o.2.1.2 - h0.1.2); omega⟩ (fun x hx => ⟨k4 x hx, h4d x hx⟩) f 0 _ _ _ hR (fun _ => rfl)
      have hgo := walk _ s.heap [] 0 0 ⟨xm_lo_ent (xm_a E s0.heap.size b) as hlen, hw, rfl, rfl, fun q hq => (by cases hq), fun _ => rfl⟩
      obtain ⟨t, st1, oc, r1, r2, r3, r4⟩ := hgo s₁ hh0 hX0
      rw [lg_entry_eq]
      exact ⟨t, oc, st1, r1, r2, r3, r4⟩
end XT
