/-! From a run of the small machine over the law's body to the claim. -/
def xh_four (w : Cond) : Bool := decide (w = .isRef (.static Bundle.tN "UNASSIGNED_STACK" Bundle.steD)) || decide (w = .isRef (.static Bundle.tN "SUPPRESSED_SENTINEL" Bundle.listD)) || decide (w = .laysStatic Bundle.tN "UNASSIGNED_STACK" Bundle.steD) || decide (w = .laysStatic Bundle.tN "SUPPRESSED_SENTINEL" Bundle.listD)
def xh_cd (w : Cond) : Bool := match w with
  | .castable _ _ => true
  | .declares _ => true
  | _ => xm_good w
def xh_P (w : Cond) : Bool := xh_four w || (xh_cd w && decide (w ∈ lw_tbl))
theorem xh_all : tb_xL.all (fun q => (Bundle.ownAtoms0 (tb_cn q.1) q.2.1 (tb_xn q.2.2.1) (tb_xs q.2.2.1)).all xh_P) = true := by decide +kernel
theorem xh_isRef {C n d : String} {v : Value} {A : Nat → Prop} {s : State} {args : Array Value} (h : va_Z C n d v A s s.heap) (hv : v.isRef = true) : (Cond.isRef (.static C n d)).before args s = true := by
  obtain ⟨cf, kf, fi, f, a, cell, h1, h2, h3, h4, h5, h6, h7, -⟩ := h
  have he : (Term.static C n d).eval args s none [] s = some v := by
    simp [Term.eval, State.fieldNamed?, h1, h2, h4, h5, h6, h7]
  simp only [Cond.before, Cond.holds, Cond.value, he]
  cases v <;> simp_all [Value.isRef]
theorem xh_static {C n d : String} {s0 U : State} {A A' : Array Value} (hl : (Cond.laysStatic C n d).before A s0 = true) (hini : (Cond.initialized C).before A s0 = true) (h : (Cond.isRef (.static C n d)).before A s0 = true) (ho : ∀ q, q < s0.heap.size → U.heap[q]? = s0.heap[q]?) (hvm : s0.vm.Alike U.vm) :
    (Cond.laysStatic C n d).before A' U = true ∧ (Cond.isRef (.static C n d)).before A' U = true := by
  constructor
  · obtain ⟨c, k, i, f, a, cell, h1, h2, h3, h4, h5, h6, h7, h8, h9⟩ := Cond.laysStatic_spec hl
    obtain ⟨k', hi', he⟩ := State.fieldFound?_setVm hvm h2
    show (Cond.laysStatic C n d).holds A' U none U [] = true
    exact Cond.laysStatic_of (by rw [hvm.findClass]; exact h1) hi' h3 (by rw [he]; exact h4) (by rw [ho a (Array.getElem?_eq_some_iff.mp h5).1]; exact h5) h6 h7 h8 (by rw [he]; exact h9)
  · have hZ : va_Zq C n d (fun _ => False) U U.heap := va_Zq.moved hvm (va_Zq.kept (va_Zqof hl hini h (fun _ _ z => z)) (fun a ha _ => ho a ha))
    rcases hZ with h | ⟨t, h⟩
    · exact xh_isRef h rfl
    · exact xh_isRef h rfl
theorem xh_XW {s : State} {b : Nat} (hts : ∀ w ∈ lw_tbl, w.before #[Value.ref b] s = true) (hu : (Cond.isRef (.static Bundle.tN "UNASSIGNED_STACK" Bundle.steD)).before #[Value.ref b] s = true) (hn : (Cond.isRef (.static Bundle.tN "SUPPRESSED_SENTINEL" Bundle.listD)).before #[Value.ref b] s = true)
    (l1 : Cond.laysStatic Bundle.tN "UNASSIGNED_STACK" Bundle.steD ∈ lw_tbl) (l2 : Cond.laysStatic Bundle.tN "SUPPRESSED_SENTINEL" Bundle.listD ∈ lw_tbl) (l3 : Cond.initialized Bundle.tN ∈ lw_tbl) : xm_XW s := by
  intro U A ho hW c ic x hx w hw
  obtain ⟨q, hq, hp, he⟩ := tb_find hx
  obtain ⟨e1, e2⟩ := tb_2 hp
  have h1 := List.all_eq_true.mp xh_all q hq
  rw [e1, e2, he] at h1
  have h2 := List.all_eq_true.mp h1 w hw
  unfold xh_P at h2
  rw [Bool.or_eq_true] at h2
  have hu2 := xh_static (A' := A) (hts _ l1) (hts _ l3) hu ho hW.alike
  have hn2 := xh_static (A' := A) (hts _ l2) (hts _ l3) hn ho hW.alike
  rcases h2 with h2 | h2
  · unfold xh_four at h2
    simp only [Bool.or_eq_true, decide_eq_true_eq] at h2
    rcases h2 with ((rfl | rfl) | rfl) | rfl
    · exact hu2.2
    · exact hn2.2
    · exact hu2.1
    · exact hn2.1
  · rw [Bool.and_eq_true, decide_eq_true_eq] at h2
    have h3 := hts w h2.2
    have h4 := h2.1
    unfold xh_cd at h4
    split at h4
    · exact va_Nw.use rfl (va_Nw.warmC hW (va_Nw.of rfl h3))
    · exact va_Nw.use rfl (va_Nw.warmD hW (va_Nw.of rfl h3))
    · exact xm_warm hW h4 h3
theorem xh_l1 : Cond.laysStatic Bundle.tN "UNASSIGNED_STACK" Bundle.steD ∈ lw_tbl := by decide +kernel
theorem xh_l2 : Cond.laysStatic Bundle.tN "SUPPRESSED_SENTINEL" Bundle.listD ∈ lw_tbl := by decide +kernel
theorem xh_l3 : Cond.initialized Bundle.tN ∈ lw_tbl := by decide +kernel
theorem xh_self : (List.range tb_nx).all (fun x => decide (Cond.castable (tb_xn x) (tb_xn x) ∈ lw_tbl)) = true := by decide +kernel
theorem xh_no : (List.range tb_nx).all (fun x => (List.range tb_nx).all (fun y => decide (x = y) || decide (Cond.not (.castable (tb_xn x) (tb_xn y)) ∈ flatC (Jvm.Cond.and given_1 narrow_1)))) = true := by decide +kernel
theorem xh_NA {s : State} {b : Nat} (hts : ∀ w ∈ lw_tbl, w.before #[Value.ref b] s = true) (hg : (Jvm.Cond.and given_1 narrow_1).before #[Value.ref b] s = true) : xm_NA s := by
  intro x x' hx hx'
  by_cases hxx : x = x'
  · subst hxx
    have h1 := of_decide_eq_true (List.all_eq_true.mp xh_self x (List.mem_range.mpr hx))
    obtain ⟨c, t, h2, h3, h4⟩ := Cond.castable_spec (hts _ h1)
    exact ⟨c, t, h2, h3, by rw [h4]; simp⟩
  · have h1 := List.all_eq_true.mp (List.all_eq_true.mp xh_no x (List.mem_range.mpr hx)) x' (List.mem_range.mpr hx')
    rw [Bool.or_eq_true, decide_eq_true_eq, decide_eq_true_eq] at h1
    have h2 := flat_of_before _ hg _ (h1.resolve_left hxx)
    obtain ⟨c, t, h3, h4, h5⟩ := va_Nc.of h2
    exact ⟨c, t, h3, h4, by rw [h5]; simp [hxx]⟩
theorem xh_nw : (List.range tb_nc).all (fun ci => tb_is (tb_nW ci) (Cond.instantiable (tb_C ci) (tb_fn ci))) = true := by decide +kernel
theorem xh_ao : (List.range tb_nc).all (fun ci => !(tb_ra ci) || tb_is (tb_aW ci) (Cond.arrayOver (.object (tb_C ci)))) = true := by decide +kernel
theorem xh_pr {s : State} {A : Array Value} {ty : FieldType} (h : (Cond.arrayClass ty).before A s = true) : ∃ c : ClassId, ArrOfT s c ty ∧ s.vm.findClass ("[" ++ ty.toString) = some c := by
  obtain ⟨c, k, comp, h1, h2, h3⟩ := Cond.arrayClass_spec h
  exact ⟨c, fun n z => ⟨fun k h => (by cases h), k, h2, comp, h3⟩, h1⟩
theorem xh_rf {s : State} {A : Array Value} {C : String} (h : (Cond.arrayOver (.object C)).before A s = true) : ∃ c : ClassId, ArrOfT s c (.object C) ∧ va_RA s c (.object C) := by
  obtain ⟨comp, c, k, h1, h2, h3, h4, h5⟩ := Cond.arrayOver_spec h
  exact ⟨c, fun n z => ⟨fun k h => (by cases h), k, h3, comp, h4⟩, k, comp, h3, h4, h1, h5⟩
/-- the classes and array classes as the tables have them -/
theorem xh_K {s : State} {A : Array Value} (hts : ∀ w ∈ tb_W, w.before A s = true) : ∃ (D : va_G) (cA : Nat → ClassId), va_K D tb_cl (tb_tys cA) s := by
  have h1 : ∀ ci : Nat, ∃ q : ClassId × (Nat → Nat), ci < tb_nc → u_Kn s (tb_C ci) (tb_T ci) (tb_fn ci) q.1 q.2 := by
    intro ci
    by_cases hc : ci < tb_nc
    · obtain ⟨cC, iS, h⟩ := u_known hts (tb_lay ci hc) (hts _ (tb_is_W (List.all_eq_true.mp xh_nw ci (List.mem_range.mpr hc))))
      exact ⟨(cC, iS), fun _ => h⟩
    · exact ⟨(0, fun _ => 0), fun h => absurd h hc⟩
  have h2 : ∀ ci : Nat, ∃ q : ClassId, tb_ra ci = true → ArrOfT s q (.object (tb_C ci)) ∧ va_RA s q (.object (tb_C ci)) := by
    intro ci
    by_cases hr : tb_ra ci = true
    · have hc : ci < tb_nc := by
        unfold tb_ra at hr
        rw [Bool.or_eq_true, beq_iff_eq, beq_iff_eq] at hr
        rcases hr with rfl | rfl <;> decide
      have h9 := List.all_eq_true.mp xh_ao ci (List.mem_range.mpr hc)
      rw [hr] at h9
      obtain ⟨c, h3, h4⟩ := xh_rf (hts _ (tb_is_W (show tb_is (tb_aW ci) (Cond.arrayOver (.object (tb_C ci))) = true from h9)))
      exact ⟨c, fun _ => ⟨h3, h4⟩⟩
    · exact ⟨0, fun h => absurd h hr⟩
  obtain ⟨cI, i1, i2⟩ := xh_pr (hts _ tb_ai)
  obtain ⟨cJ, j1, j2⟩ := xh_pr (hts _ tb_aj)
  obtain ⟨cZ, z1, z2⟩ := xh_pr (hts _ tb_az)
  refine ⟨(fun ci => (Classical.choose (h1 ci)).1, fun ci => (Classical.choose (h1 ci)).2), fun k => if k = 100 then cI else if k = 101 then cJ else if k = 102 then cZ else Classical.choose (h2 (k - 120)), fun c q hq => ?_, fun k q hq => ?_⟩
  · have hlt : c < tb_nc := (List.getElem?_eq_some_iff.mp hq).1
    have e := (tb_q_ok c hlt).symm.trans hq
    cases e
    exact Classical.choose_spec (h1 c) hlt
  · have hlt : k < 5 := (List.getElem?_eq_some_iff.mp hq).1
    rcases (show k = 0 ∨ k = 1 ∨ k = 2 ∨ k = 3 ∨ k = 4 by omega) with rfl | rfl | rfl | rfl | rfl
    · cases hq; exact ⟨i1, i2⟩
    · cases hq; exact ⟨j1, j2⟩
    · cases hq; exact ⟨z1, z2⟩
    · cases hq; exact Classical.choose_spec (h2 3) rfl
    · cases hq; exact Classical.choose_spec (h2 4) rfl
/-- what is left to show: the law's body, in the small machine -/
def xz_P (L : Nat) (xs : Nat → Int32) : Prop := ∃ (E : xm_E) (h0 : xm_H) (f : Nat) (o : xm_O) (sc : xm_I), xm_Eok E ∧ E.1 sc = (110, L) ∧ (∀ a, (E.1 a).1 = 110 → a = sc) ∧ h0.1 = (0, 0) ∧ (∀ a, (E.1 a).1 ≠ 110 → ∀ k, h0.2.1 a k = 0 ∧ h0.2.2.1 a k = 0 ∧ h0.2.2.2 a k = none) ∧ (∀ j, j < L → h0.2.1 sc j = xs j) ∧
  xm_R E (xm_C E 8) true tb_n f 0 (xm_ent [xm_r sc] 8) [] h0 o ∧ o.1 = .inl (some (xm_i 1)) ∧ o.2.1.1 ≤ 601024 ∧ o.2.1.2 ≤ 7293000
def R_law : String := "VotingRoundsLaw"
def lw_P (b : Addr) (xs : List Int32) (args : Array Value) (s : State) : Prop := args = #[.ref b] ∧ s.IntsAt b xs ∧ xs.length ≤ 2562 ∧ (Jvm.Cond.and given_1 narrow_1).before args s = true
def lw_Q (_ : Array Value) (s : State) (o : Outcome) (t : State) : Prop := o = .returned (some (.int 1)) ∧ Framed s o t [] 601024 7293000
def lw_Z (below : List Frame) (a : Array Value) (s : State) : State → Prop := fun t => ∃ o, t.status = .running ∧ Ended t below o ∧ lw_Q a s o t
def lw_At (p : Program) (s : State) (m : MethodId) (meth : Method) (c : Code) (b L : Nat) (xs : Nat → Int32) : Prop :=
  p.tables.exec = Jvm.exec ∧ c.code = code ∧ meth.sig.returnType = ret ∧ c.maxLocals = 8 ∧ s.vm.findClass R_law = some m.cls ∧ (∀ w ∈ lw_tbl, w.before #[Value.ref b] s = true) ∧ va_X b L xs s s.heap ∧ b < s.heap.size ∧ meth.locks = false ∧ (Jvm.Cond.and given_1 narrow_1).before #[Value.ref b] s = true ∧ c.exceptionTable.toList = []
theorem xz_u : Cond.isRef (.static Bundle.tN "UNASSIGNED_STACK" Bundle.steD) ∈ flatC (Jvm.Cond.and given_1 narrow_1) := by decide +kernel
theorem xz_n : Cond.isRef (.static Bundle.tN "SUPPRESSED_SENTINEL" Bundle.listD) ∈ flatC (Jvm.Cond.and given_1 narrow_1) := by decide +kernel
set_option maxHeartbeats 4000000 in
set_option maxRecDepth 100000 in
theorem whole_start {p : Program} {e : Env} {s : State} {m : MethodId} {below : List Frame} {meth : Method} {c : Code} (l : Launch) (hfl : l.flags = flags0) {b L : Nat} {xs : Nat → Int32} (hP : xz_P L xs) (C0 : lw_At p s m meth c b L xs) : W p l e room_1 s m #[Value.ref b] below meth c s.heap [] 0 0 (lw_Z below #[Value.ref b] s) (entryFrame m ([Value.ref b] : List Value).toArray 8) := by
  intro T hT X
  obtain ⟨hx, hb, hr, hml, hown, hts, hX, hbl, hlk, hgv, htab⟩ := C0
  obtain ⟨E, h0, f, o, sc, hE, hsc, hsc1, h00, hz, hxs, hR, ho, hc1, hc2⟩ := hP
  have hts2 : ∀ w ∈ tb_W, w.before #[Value.ref b] s = true := fun w hw => hts w (List.mem_filter.mp hw).1
  obtain ⟨D, cA, hK⟩ := xh_K hts2
  have hXW : xm_XW s := xh_XW hts (flat_of_before _ hgv _ xz_u) (flat_of_before _ hgv _ xz_n) xh_l1 xh_l2 xh_l3
  have hNA : xm_NA s := xh_NA hts hgv
  have htr : ∀ e : Env, l.admits e → e.platform.stackTraces = false := fun e ha => Launch.traces_off hfl ha
  have hadm : e.platform.magicAccessors = ({} : Platform).magicAccessors := by rw [X.admits.platform]
  have hB : xm_B p s m #[Value.ref b] meth c D cA tb_n := ⟨hx, hb, hml, hlk, hown, hts2, hK, hr, fun h => by cases h⟩
  have hw : xm_w D cA s b L xs E h0 s.heap := by
    refine ⟨by rw [h00]; rfl, fun _ _ => rfl, fun a ha => by rw [h00] at ha; exact absurd ha (Nat.not_lt_zero _), fun a h110 _ => hz a h110, fun a h110 => ?_⟩
    have ea := hsc1 a h110
    subst ea
    rw [hsc]
    exact ⟨rfl, hxs⟩
  have main := xt_main (l := l) (a0 := #[Value.ref b]) hE hbl hX hts2 hK htr hXW hNA tb_good
  have walk := xt_walk (l := l) (p := p) (e := e) (R := room_1) (below := below) (md := true) (h0 := h0) (o := o) (j := tb_n) (d := 8) hE hbl hB hX (htr e X.admits) hadm hXW hNA (fun q hq => absurd hq List.not_mem_nil) htab tb_good (State.WarmedH.refl s) (fun _ _ => rfl) (by rw [h00]; rfl) ⟨by decide, by decide⟩ (main 8) ⟨by rw [h00]; show _ ≤ 0 + 601024; omega, by rw [h00]; show _ ≤ 0 + 7293000; omega⟩ (fun x hx => by rw [ho] at hx; cases hx) f 0 _ _ _ hR (fun h => by cases h)
  have hL0 : xm_a E s.heap.size b sc = b := by unfold xm_a; rw [if_pos (by rw [hsc])]
  have hlo := xm_lo_ent (xm_a E s.heap.size b) [xm_r sc] (n := 8) (show (1 : Nat) ≤ 8 by decide)
  have hgo := walk _ s.heap [] 0 0 ⟨hlo, hw, by rw [h00], by rw [h00], fun q hq => absurd hq List.not_mem_nil, fun h => by cases h⟩
  have hent : entryFrame m ([Value.ref b] : List Value).toArray 8 = F0 m 0 ((lg_sl ([xm_r sc].map (xm_v (xm_a E s.heap.size b))) ++ List.replicate (8 - (lg_sl ([xm_r sc].map (xm_v (xm_a E s.heap.size b)))).length) Slot.unset).toArray) [] := by
    rw [lg_entry_eq]
    have e9 : [xm_r sc].map (xm_v (xm_a E s.heap.size b)) = [Value.ref b] := by
      show [Value.ref (xm_a E s.heap.size b sc)] = _
      rw [hL0]
    rw [e9]
  rw [hent]
  obtain ⟨t, st1, oc, r1, r2, ⟨r3, r4⟩, Lo, r5, r6, r7⟩ := hgo T hT X
  refine ⟨t, st1, oc, r1, r2, ?_⟩
  have hoc : oc = .returned (some (.int 1)) := by
    unfold xm_oc at r3
    rw [ho] at r3
    exact r3
  refine ⟨hoc, ⟨_, hoc⟩, r6, r7.weaken (fun y hy hlt => absurd hlt (Nat.not_lt.mpr (r5.1 y hy))) ?_ ?_⟩
  · rw [h00]; exact hc1
  · rw [h00]; exact hc2
