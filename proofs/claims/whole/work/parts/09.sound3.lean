/-! Ends, throws, calls; and the whole: a call of the small machine is a contract of the real one. -/
def xm_rm (d k n : Nat) : Room := { frames := d + 1, cells := k, slots := n, locals := 36 * d }
def xm_oc (L : xm_I → Nat) (o : xm_O) (oc : Outcome) (t : State) : Prop := match o.1 with
  | .inl v => oc = .returned (v.map (xm_v L))
  | .inr x => oc = .threw (L x.1) ∧ ∃ ce : Cell, t.heap[L x.1]? = some ce ∧ ce.vm = .none ∧ t.vm.findClass (tb_xn x.2) = some ce.cls
def xm_fr (s0 : State) (md : Bool) : List Loc → Prop := fun Lo => (∀ q ∈ Lo, s0.heap.size ≤ q.base) ∧ (md = false → Lo = [])
def xm_M (l : Launch) (D : va_G) (cA : Nat → ClassId) (s0 : State) (b n : Nat) (xs : Nat → Int32) (E : xm_E) (d : Nat) (md : Bool) (y : Nat) (as : List xm_V) (h : xm_H) (o : xm_O) : Prop :=
  xc_M l (tb_y y) (tb_w y) (xm_rm d (o.2.1.1 - h.1.1) (o.2.1.2 - h.1.2)) (fun a U => a = (as.map (xm_v (xm_a E s0.heap.size b))).toArray ∧ xm_w D cA s0 b n xs E h U.heap ∧ s0.WarmedH U.vm) (fun _ oc t => xm_oc (xm_a E s0.heap.size b) o oc t ∧ xm_w D cA s0 b n xs E o.2 t.heap) (xm_fr s0 md)
def xm_Qf (below : List Frame) (s : State) (D : va_G) (cA : Nat → ClassId) (s0 : State) (b n : Nat) (xs : Nat → Int32) (E : xm_E) (md : Bool) (h0 : xm_H) (o : xm_O) : State → Prop := fun t =>
  ∃ oc, t.status = .running ∧ Ended t below oc ∧ (xm_oc (xm_a E s0.heap.size b) o oc t ∧ xm_w D cA s0 b n xs E o.2 t.heap) ∧ ∃ Lo, xm_fr s0 md Lo ∧ s.WarmedH t.vm ∧ s.sameButNew ({ t with vm := s.vm } : State) Lo (o.2.1.1 - h0.1.1) (o.2.1.2 - h0.1.2)
/-- the words of a thrown thing hold wherever the old heap does -/
def xm_XW (s0 : State) : Prop := ∀ (U : State) (A : Array Value), (∀ q, q < s0.heap.size → U.heap[q]? = s0.heap[q]?) → s0.WarmedH U.vm → ∀ c ic x, tb_xi c ic = some x → ∀ w ∈ Bundle.ownAtoms0 (tb_cn c) ic (tb_xn x) (tb_xs x), w.before A U = true
/-- what is thrown is no subclass of another -/
def xm_NA (s0 : State) : Prop := ∀ x x', x < tb_nx → x' < tb_nx → ∃ k k', s0.vm.findClass (tb_xn x) = some k ∧ s0.vm.findClass (tb_xn x') = some k' ∧ s0.vm.assignable k k' = decide (x = x')
section XS3
variable {l : Launch} {p : Program} {e : Env} {R : Room} {s : State} {m : MethodId} {args : Array Value} {below : List Frame} {meth : Method} {c : Code} {Q Q' : State → Prop}
variable {D : va_G} {cA : Nat → ClassId} {s0 : State} {b n : Nat} {xs : Nat → Int32} {E : xm_E} {md : Bool} {j : Nat} {h0 : xm_H}
theorem xs_mono {H : Heap} {locs : List Loc} {cells slots : Nat} {g : JFrame} (h : ∀ t, Q t → Q' t) (k : W p l e R s m args below meth c H locs cells slots Q g) : W p l e R s m args below meth c H locs cells slots Q' g := by
  intro T hT X
  obtain ⟨t, a1, b1⟩ := k T hT X
  exact ⟨t, a1, h t b1⟩
theorem xs_end {h : xm_H} {v : Option xm_V} {cells slots : Nat} (h1 : h.1.1 = h0.1.1 + cells) (h2 : h.1.2 = h0.1.2 + slots) (t : State)
    (hq : MQ below (fun _ _ oc t => xm_oc (xm_a E s0.heap.size b) (.inl v, h) oc t ∧ xm_w D cA s0 b n xs E h t.heap) args s cells slots (fun q => s0.heap.size ≤ q ∧ md = true) t) :
    xm_Qf below s D cA s0 b n xs E md h0 (.inl v, h) t := by
  obtain ⟨oc, q1, q2, q3, Lo, ⟨-, q4, q5⟩, q6⟩ := hq
  refine ⟨oc, q1, q2, q3, Lo, ⟨fun q hq => (q6 q hq).1, fun hmd => ?_⟩, q4, ?_⟩
  · cases Lo with
    | nil => rfl
    | cons q r => have := (q6 q List.mem_cons_self).2; rw [hmd] at this; cases this
  · show s.sameButNew _ Lo (h.1.1 - h0.1.1) (h.1.2 - h0.1.2)
    rw [show h.1.1 - h0.1.1 = cells by omega, show h.1.2 - h0.1.2 = slots by omega]
    exact q5
theorem xs_free {locs : List Loc} (h1 : ∀ q ∈ locs, s0.heap.size ≤ q.base) (h2 : md = false → locs = []) : ∀ q ∈ locs, s0.heap.size ≤ q.base ∧ md = true := by
  intro q hq
  refine ⟨h1 q hq, ?_⟩
  cases hmd : md with
  | true => rfl
  | false => rw [h2 hmd] at hq; cases hq
set_option maxHeartbeats 4000000 in
theorem xs_ret (hB : xm_B p s m args meth c D cA j) {pc : Nat} {lv : xm_L} {st : List xm_V} {h : xm_H} {ins : Instr} {len : Nat} (hd : decode (tb_cd j) pc = .ok (ins, len)) (hlen : len = xm_len ins ∨ xm_len ins = 0) {o : xm_O} (hex : xm_ex E md j pc ins len lv st h = some (.inr (.inl o)))
    (hpl : ins = .ireturn ∨ ins = .lreturn ∨ ins = .return_) : xm_Wd p l e R s m args below meth c (xm_Qf below s D cA s0 b n xs E md h0 o) D cA s0 b n xs E md h0 (tb_ml j) pc lv st h := by
  intro ls H locs cells slots hN
  obtain ⟨hx, hb, hml, hlk, hown, hts, hK, hr, hi⟩ := hB
  obtain ⟨-, hw, h1, h2, h3, h4⟩ := hN
  have hrt := tb_rt_ok j
  rcases hpl with rfl | rfl | rfl
  · have hl : len = 1 := hlen.resolve_right (show ¬ ((1 : Nat) = 0) by decide)
    subst hl
    simp only [xm_ex] at hex
    split at hex
    · rename_i v
      split at hex
      · rename_i hok
        cases hex
        simp only [List.map_cons, List.map_nil, xm_v]
        rcases hok with hok | ⟨hok, h01⟩
        · exact xs_mono (xs_end h1 h2) (W.iret hx hb (by rw [hr]; exact hrt.1 hok) (fun t ht _ => ⟨rfl, by rw [ht]; exact hw⟩) (xs_free h3 h4) hd hlk)
        · exact xs_mono (xs_end h1 h2) (W.zret (ty := .boolean) hx hb (by rw [hr]; exact hrt.2.1 hok) (by rcases h01 with rfl | rfl <;> rfl) (fun t ht _ => ⟨rfl, by rw [ht]; exact hw⟩) (xs_free h3 h4) hd hlk)
      · cases hex
    · cases hex
  · have hl : len = 1 := hlen.resolve_right (show ¬ ((1 : Nat) = 0) by decide)
    subst hl
    simp only [xm_ex] at hex
    split at hex
    · rename_i v
      split at hex
      · rename_i hok
        cases hex
        simp only [List.map_cons, List.map_nil, xm_v]
        exact xs_mono (xs_end h1 h2) (W.lret hx hb (by rw [hr]; exact hrt.2.2.1 hok) (fun t ht _ => ⟨rfl, by rw [ht]; exact hw⟩) (xs_free h3 h4) hd hlk)
      · cases hex
    · cases hex
  · have hl : len = 1 := hlen.resolve_right (show ¬ ((1 : Nat) = 0) by decide)
    subst hl
    simp only [xm_ex] at hex
    split at hex
    · rename_i hok
      cases hex
      obtain ⟨hok, rfl⟩ := hok
      simp only [List.map_nil]
      exact xs_mono (xs_end h1 h2) (W.vret hx hb (by rw [hr]; exact hrt.2.2.2 hok) (fun t ht _ => ⟨rfl, by rw [ht]; exact hw⟩) (xs_free h3 h4) hd hlk)
    · cases hex
/-- a cell that nothing may have touched is as it was -/
theorem xs_same {t : State} {k r : Nat} (h : s.sameButNew t [] k r) : ∀ q, q < s.heap.size → t.heap[q]? = s.heap[q]? := by
  intro q hq
  obtain ⟨-, -, -, -, -, h6⟩ := h
  have hc : s.heap[q]? = some s.heap[q] := Array.getElem?_eq_getElem hq
  obtain ⟨c', e1, e2, e3, e4⟩ := h6 q _ hc
  rw [e1, hc]
  congr 1
  have hs : c'.slots = s.heap[q].slots := by
    apply Array.ext_getElem?
    intro i
    exact e4 i (by simp)
  rw [e2, hs]
set_option maxHeartbeats 4000000 in
theorem xs_throw (hE : xm_Eok E) (hb0 : b < s0.heap.size) (hB : xm_B p s m args meth c D cA j) (htr : e.platform.stackTraces = false) (hXW : xm_XW s0) (hW0 : s0.WarmedH s.vm) (hs0 : ∀ q, q < s0.heap.size → s.heap[q]? = s0.heap[q]?) (hsz0 : s.heap.size = s0.heap.size + h0.1.1) (htab : c.exceptionTable.toList = tableOf (tb_h j))
    {pc i : Nat} {lv : xm_L} {st : List xm_V} {h : xm_H} {len : Nat} (hd : decode (tb_cd j) pc = .ok (.new i, len)) (hlen : len = xm_len (.new i) ∨ xm_len (.new i) = 0) {o : xm_O} (hex : xm_ex E md j pc (.new i) len lv st h = some (.inr (.inl o)))
    (hcnt : h.1 = h0.1) (hcap : 1 ≤ R.cells ∧ 6 ≤ R.slots) (hfr : 6 ≤ R.frames) (hlo : 100 ≤ R.locals) : xm_Wd p l e R s m args below meth c (xm_Qf below s D cA s0 b n xs E md h0 o) D cA s0 b n xs E md h0 (tb_ml j) pc lv st h := by
  intro ls H locs cells slots hN
  obtain ⟨hx, hb, hml, hlk, hown, hts, hK, hr, hi⟩ := hB
  obtain ⟨hlv, hw, h1, h2, h3, h4⟩ := hN
  have hl : len = 3 := hlen.resolve_right (show ¬ ((3 : Nat) = 0) by decide)
  subst hl
  simp only [xm_ex] at hex
  split at hex
  · split at hex <;> cases hex
  split at hex
  case h_2 => cases hex
  case h_1 x ic hx1 hd3 hd4 hd7 =>
  split at hex
  case isFalse => cases hex
  case isTrue hok =>
  obtain ⟨hxi, hmd, rfl, htb, hkd⟩ := hok
  cases hex
  have hc0 : cells = 0 := by rw [hcnt] at h1; omega
  have hsl0 : slots = 0 := by rw [hcnt] at h2; omega
  have hlocs : locs = [] := h4 hmd
  subst hc0; subst hsl0; subst hlocs
  obtain ⟨w1, w2, w3, w4, w5⟩ := tb_x_w _ _ _ hx1
  obtain ⟨kX, kX', hfX, -, -⟩ := (show ∃ k k', s.vm.findClass (tb_xn x) = some k ∧ True ∧ k' = k from by
    obtain ⟨cC, kC, hfc, -⟩ := Cond.instantiable_spec (hts _ w2)
    exact ⟨cC, cC, hfc, trivial, rfl⟩)
  have h110 : (E.1 (E.2.2 h.1.1)).1 ≠ 110 := by omega
  have hL : xm_a E s0.heap.size b (E.2.2 h.1.1) = H.size := by rw [xs_L h110, hE.2, hw.1]
  refine W.newcK (n := 6) hx hb hown (hts _ w1) (hts _ w2) (hts _ w3) rfl hd (by omega) (by omega) hfX rfl fun H' kC hkC e1 e2 e3 => ?_
  refine lv_dup hx hb hd3 rfl ?_
  intro T hT X
  have hss : s.heap.size = H.size := by rw [hw.1, hsz0, hcnt]
  obtain ⟨U, st1, r1, r2, r3, r4, ce, r5, r6⟩ := X.ctorThrow0 hx htr (own := tb_cn (tb_ow j)) (cls := tb_xn x) (names := tb_xs x) (ic := ic) hown w4 w5 (fun a ha => hXW s args hs0 hW0 _ _ _ hxi a ha) (fun q hq => by cases hq) hfX hkC (a := H.size) (by rw [hT]; exact e1) (by omega)
    (g := F0 m (pc + 3 + 1) ls [.ref H.size, .ref H.size]) rfl (by rw [hml]; exact hlv.2.1) rfl rfl (rest := []) rfl (by rw [hb]; exact hd4) (by rw [hb]; exact hd7) (by rw [htab, htb]; intro z hz; cases hz) (by have := tb_xs_len x; omega) (by have := tb_xs_len x; show 2 * (F0 m (pc + 3 + 1) ls [Value.ref H.size, Value.ref H.size]).monitorRoom + 1 + _ ≤ _; have hm0 : (F0 m (pc + 3 + 1) ls [Value.ref H.size, Value.ref H.size]).monitorRoom = 0 := rfl; omega) hlk
  have hUold : ∀ q, q < s.heap.size → U.heap[q]? = s.heap[q]? := xs_same (t := ({ U with vm := s.vm } : State)) r4
  have hHold : ∀ q, q < s.heap.size → H[q]? = s.heap[q]? := by
    intro q hq
    have h9 := xs_same (t := T.setVm s.vm) (X.same) q hq
    have h8 : T.heap[q]? = s.heap[q]? := h9
    rw [hT] at h8
    rw [← h8, e3 q (by omega)]
  have hUsz : U.heap.size = H.size + 1 := by
    have a1 : U.heap.size ≤ s.heap.size + 1 := r4.2.2.1
    have a2 : H.size < U.heap.size := (Array.getElem?_eq_some_iff.mp r5).1
    omega
  refine ⟨U, st1, .threw H.size, r1, r2, ⟨⟨by rw [hL], ce, by rw [hL]; exact r5, r6.vm, ?_⟩, ?_⟩, [], (show xm_fr s0 md [] from ⟨fun q hq => absurd hq List.not_mem_nil, fun _ => rfl⟩), r3, ?_⟩
  · show U.vm.findClass (tb_xn x) = some ce.cls
    have := r6.cls
    rw [← this]
    exact r3.alike.findClass _ _
  · exact xm_w_new hE hb0 hw hUsz (fun q hq => by rw [hUold q (by omega), hHold q (by omega)]) (fun z => by omega)
  · show s.sameButNew _ [] (h.1.1 + 1 - h0.1.1) (h.1.2 + 6 - h0.1.2)
    rw [show h.1.1 + 1 - h0.1.1 = 0 + 1 by rw [hcnt]; omega, show h.1.2 + 6 - h0.1.2 = 0 + 6 by rw [hcnt]; omega]
    exact r4
end XS3
