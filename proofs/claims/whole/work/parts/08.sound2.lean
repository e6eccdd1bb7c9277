/-! Arrays and new cells. -/
section XS2
variable {l : Launch} {p : Program} {e : Env} {R : Room} {s : State} {m : MethodId} {args : Array Value} {below : List Frame} {meth : Method} {c : Code} {Q : State → Prop}
variable {D : va_G} {cA : Nat → ClassId} {s0 : State} {b n : Nat} {xs : Nat → Int32} {E : xm_E} {md : Bool} {j : Nat} {h0 : xm_H}
theorem xs_I (hK : va_K D tb_cl (tb_tys cA) s) : ArrOfT s (cA 100) .int ∧ s.vm.findClass ("[" ++ FieldType.int.toString) = some (cA 100) := hK.2 0 (cA 100, .int) rfl
theorem xs_J (hK : va_K D tb_cl (tb_tys cA) s) : ArrOfT s (cA 101) .long ∧ s.vm.findClass ("[" ++ FieldType.long.toString) = some (cA 101) := hK.2 1 (cA 101, .long) rfl
theorem xs_Z (hK : va_K D tb_cl (tb_tys cA) s) : ArrOfT s (cA 102) .boolean ∧ s.vm.findClass ("[" ++ FieldType.boolean.toString) = some (cA 102) := hK.2 2 (cA 102, .boolean) rfl
theorem xs_Rf (hK : va_K D tb_cl (tb_tys cA) s) {ci : Nat} (h : tb_ra ci = true) : ArrOfT s (cA (120 + ci)) (.object (tb_C ci)) ∧ va_RA s (cA (120 + ci)) (.object (tb_C ci)) := by
  obtain ⟨t, ht⟩ := tb_tys_ra cA ci h
  exact hK.2 t _ ht
theorem xs_inn {i : Int32} {k : Nat} (h : xm_in i k) : i.toNatClampNeg < k := Nat.not_le.mp fun q => h (Or.inr q)
theorem xs_arr {f : Nat → Value} {cI : ClassId} {k : Nat} {i : Int32} (h : xm_in i k) : ¬ (i < 0 ∨ (arrV cI k f).slots.size ≤ i.toNatClampNeg) := by rw [arrV_size]; exact h
theorem xs_kn {f : Nat → Value} {cI : ClassId} {k : Nat} : (arrV cI k f).vm ≠ .unknown := fun q => by cases q
set_option maxHeartbeats 4000000 in
theorem xs_ald (hB : xm_B p s m args meth c D cA j) (hX : va_X b n xs s s0.heap) (hb0 : b < s0.heap.size) {pc : Nat} {lv : xm_L} {st : List xm_V} {h : xm_H} {ins : Instr} {len : Nat} (hd : decode (tb_cd j) pc = .ok (ins, len)) (hlen : len = xm_len ins ∨ xm_len ins = 0) {q : xm_F} (hex : xm_ex E md j pc ins len lv st h = some (.inl q))
    (hpl : ins = .iaload ∨ ins = .laload ∨ ins = .baload ∨ ins = .aaload ∨ ins = .arraylength) (kk : xm_Wd p l e R s m args below meth c Q D cA s0 b n xs E md h0 (tb_ml j) q.1 q.2.1 q.2.2.1 q.2.2.2) : xm_Wd p l e R s m args below meth c Q D cA s0 b n xs E md h0 (tb_ml j) pc lv st h := by
  intro ls H locs cells slots hN
  obtain ⟨hx, hb, hml, hlk, hown, hts, hK, hr, hi⟩ := hB
  have hw := hN.2.1
  have hnc := xm_nc
  have hscr : ∀ a, (E.1 a).1 = 110 → ∃ scr : Cell, H[xm_a E s0.heap.size b a]? = some scr ∧ s.isArrayOf scr .int ∧ scr.vm ≠ .unknown ∧ scr.slots.size = (E.1 a).2 ∧ ∀ z : Nat, z < (E.1 a).2 → scr.slots[z]? = some (.int (h.2.1 a z)) := by
    intro a h110
    obtain ⟨scr, x1, x2, x3, x4, x5⟩ := hX
    obtain ⟨y1, y2⟩ := hw.2.2.2.2 a h110
    refine ⟨scr, ?_, x2, x3, by rw [y1]; exact x4, fun z hz => ?_⟩
    · unfold xm_a
      rw [if_pos h110, hw.2.1 b hb0]
      exact x1
    · rw [y1] at hz
      rw [y2 z hz]
      exact x5 z hz
  rcases hpl with rfl | rfl | rfl | rfl | rfl
  · have hl : len = 1 := hlen.resolve_right (show ¬ ((1 : Nat) = 0) by decide)
    subst hl
    simp only [xm_ex] at hex
    split at hex
    · rename_i x a r
      split at hex
      · rename_i hok
        cases hex
        obtain ⟨hok, hin⟩ := hok
        simp only [List.map_cons, xm_v]
        rcases hok with hok | h110
        · have hc := (hw.2.2.1 a hok.2).2.1 hok.1
          exact W.iald hx hb hc ((xs_I hK).1 _ _) xs_kn (xs_arr hin) (arrV_read _ _ (xs_inn hin)) rfl rfl hd (kk _ _ _ _ _ hN)
        · obtain ⟨scr, x1, x2, x3, x4, x5⟩ := hscr a h110
          exact W.iald hx hb x1 x2 x3 (by rw [x4]; exact hin) (x5 _ (xs_inn hin)) rfl rfl hd (kk _ _ _ _ _ hN)
      · cases hex
    · cases hex
  · have hl : len = 1 := hlen.resolve_right (show ¬ ((1 : Nat) = 0) by decide)
    subst hl
    simp only [xm_ex] at hex
    split at hex
    · rename_i x a r
      split at hex
      · rename_i hok
        cases hex
        obtain ⟨hok, hin⟩ := hok
        simp only [List.map_cons, xm_v]
        have hc := (hw.2.2.1 a hok.2).2.2.2.1 hok.1
        exact W.lald hx hb hc ((xs_J hK).1 _ _) xs_kn (xs_arr hin) (arrV_read _ _ (xs_inn hin)) rfl rfl hd (kk _ _ _ _ _ hN)
      · cases hex
    · cases hex
  · have hl : len = 1 := hlen.resolve_right (show ¬ ((1 : Nat) = 0) by decide)
    subst hl
    simp only [xm_ex] at hex
    split at hex
    · rename_i x a r
      split at hex
      · rename_i hok
        cases hex
        obtain ⟨hok, hin⟩ := hok
        simp only [List.map_cons, xm_v]
        have hc := (hw.2.2.1 a hok.2).2.2.1 hok.1
        exact W.zald hx hb hc ((xs_Z hK).1 _ _) xs_kn (xs_arr hin) (arrV_read _ _ (xs_inn hin)) rfl rfl hd (kk _ _ _ _ _ hN)
      · cases hex
    · cases hex
  · have hl : len = 1 := hlen.resolve_right (show ¬ ((1 : Nat) = 0) by decide)
    subst hl
    simp only [xm_ex] at hex
    split at hex
    · rename_i x a r
      split at hex
      · rename_i hok
        cases hex
        obtain ⟨⟨hk1, hk2, hk3⟩, hal, hin⟩ := hok
        simp only [List.map_cons, xm_v]
        have hc := (hw.2.2.1 a hal).2.2.2.2 hk1 hk2
        have hA := (xs_Rf hK hk3).1
        rw [show 120 + ((E.1 a).1 - 120) = (E.1 a).1 by omega] at hA
        exact W.aald (ty := .object (tb_C ((E.1 a).1 - 120))) hx hb hc (hA _ _) rfl xs_kn (xs_arr hin) (arrV_read _ _ (xs_inn hin)) rfl rfl hd (kk _ _ _ _ _ hN)
      · cases hex
    · cases hex
  · have hl : len = 1 := hlen.resolve_right (show ¬ ((1 : Nat) = 0) by decide)
    subst hl
    simp only [xm_ex] at hex
    split at hex
    · rename_i a r
      split at hex
      · rename_i hok
        cases hex
        simp only [List.map_cons, xm_v]
        rcases hok with h110 | ⟨hal, hk | hk | hk | ⟨hk1, hk2, hk3⟩⟩
        · obtain ⟨scr, x1, x2, x3, x4, x5⟩ := hscr a h110
          exact W.alen hx hb x1 x2 (by rw [x4]) rfl rfl hd (kk _ _ _ _ _ hN)
        · exact W.alen hx hb ((hw.2.2.1 a hal).2.1 hk) ((xs_I hK).1 _ _) (by rw [arrV_size]) rfl rfl hd (kk _ _ _ _ _ hN)
        · exact W.alen hx hb ((hw.2.2.1 a hal).2.2.2.1 hk) ((xs_J hK).1 _ _) (by rw [arrV_size]) rfl rfl hd (kk _ _ _ _ _ hN)
        · exact W.alen hx hb ((hw.2.2.1 a hal).2.2.1 hk) ((xs_Z hK).1 _ _) (by rw [arrV_size]) rfl rfl hd (kk _ _ _ _ _ hN)
        · have hA := (xs_Rf hK hk3).1
          rw [show 120 + ((E.1 a).1 - 120) = (E.1 a).1 by omega] at hA
          exact W.alen hx hb ((hw.2.2.1 a hal).2.2.2.2 hk1 hk2) (hA _ _) (by rw [arrV_size]) rfl rfl hd (kk _ _ _ _ _ hN)
      · cases hex
    · cases hex
theorem xs_up_ne {α : Type} (f : xm_I → Nat → α) {a : xm_I} (k : Nat) (x : α) (a' : xm_I) (hne : a' ≠ a) : xm_up f a k x a' = f a' := by
  funext z
  exact if_neg (fun q => hne q.1)
theorem xs_up_eq {α : Type} (f : xm_I → Nat → α) (a : xm_I) (k : Nat) (x : α) (i : Nat) : xm_up f a k x a i = if i = k then x else f a i := by
  show (if a = a ∧ i = k then x else f a i) = _
  by_cases hik : i = k
  · rw [if_pos ⟨rfl, hik⟩, if_pos hik]
  · rw [if_neg (fun q => hik q.2), if_neg hik]
theorem xs_locs {a : xm_I} {locs : List Loc} {i : Nat} (h110 : (E.1 a).1 ≠ 110) (hl : ∀ q ∈ locs, s0.heap.size ≤ q.base) : ∀ q ∈ locs ++ [⟨xm_a E s0.heap.size b a, i⟩], s0.heap.size ≤ q.base := by
  intro z hz
  rcases List.mem_append.mp hz with h1 | h1
  · exact hl z h1
  · rw [List.mem_singleton.mp h1]
    show s0.heap.size ≤ xm_a E s0.heap.size b a
    unfold xm_a
    rw [if_neg h110]
    exact Nat.le_add_right _ _
set_option maxHeartbeats 4000000 in
theorem xs_ast (hE : xm_Eok E) (hb0 : b < s0.heap.size) (hB : xm_B p s m args meth c D cA j) {pc : Nat} {lv : xm_L} {st : List xm_V} {h : xm_H} {ins : Instr} {len : Nat} (hd : decode (tb_cd j) pc = .ok (ins, len)) (hlen : len = xm_len ins ∨ xm_len ins = 0) {q : xm_F} (hex : xm_ex E md j pc ins len lv st h = some (.inl q))
    (hpl : ins = .iastore ∨ ins = .lastore ∨ ins = .bastore ∨ ins = .aastore) (kk : xm_Wd p l e R s m args below meth c Q D cA s0 b n xs E md h0 (tb_ml j) q.1 q.2.1 q.2.2.1 q.2.2.2) : xm_Wd p l e R s m args below meth c Q D cA s0 b n xs E md h0 (tb_ml j) pc lv st h := by
  intro ls H locs cells slots hN
  obtain ⟨hx, hb, hml, hlk, hown, hts, hK, hr, hi⟩ := hB
  have hw := hN.2.1
  have hnc := xm_nc
  rcases hpl with rfl | rfl | rfl | rfl
  · have hl : len = 1 := hlen.resolve_right (show ¬ ((1 : Nat) = 0) by decide)
    subst hl
    simp only [xm_ex] at hex
    split at hex
    · rename_i v x a r
      split at hex
      · rename_i hok
        cases hex
        obtain ⟨hmd, hok, hin⟩ := hok
        simp only [List.map_cons, xm_v]
        have hc := (hw.2.2.1 a hok.2).2.1 hok.1
        have h110 : (E.1 a).1 ≠ 110 := by rw [hok.1]; decide
        refine W.iast hx hb hc ((xs_I hK).1 _ _) xs_kn (xs_arr hin) rfl rfl hd fun H' e1 e2 e3 => kk _ _ _ _ _ ⟨hN.1, ?_, hN.2.2.1, hN.2.2.2.1, xs_locs h110 hN.2.2.2.2.1, fun z => by rw [hmd] at z; cases z⟩
        refine xm_w_set (a := a) hE hb0 hw hok.2 (by rw [hok.1]; decide) h110 e2 e3 rfl (fun a' hne => ⟨xs_up_ne _ _ _ _ hne, rfl, rfl⟩) ⟨fun z => by rw [hok.1] at z; omega, fun _ => ?_, fun z => by rw [hok.1] at z; omega, fun z => by rw [hok.1] at z; omega, fun z => by rw [hok.1] at z; omega⟩
        rw [e1, arrV_store]
        refine congrArg (fun F => some (arrV _ _ F)) (funext fun z => ?_)
        show (if z = _ then Value.int v else _) = Value.int (xm_up h.2.1 a _ v a z)
        rw [xs_up_eq]
        split <;> rfl
      · cases hex
    · cases hex
  · have hl : len = 1 := hlen.resolve_right (show ¬ ((1 : Nat) = 0) by decide)
    subst hl
    simp only [xm_ex] at hex
    split at hex
    · rename_i v x a r
      split at hex
      · rename_i hok
        cases hex
        obtain ⟨hmd, hok, hin⟩ := hok
        simp only [List.map_cons, xm_v]
        have hc := (hw.2.2.1 a hok.2).2.2.2.1 hok.1
        have h110 : (E.1 a).1 ≠ 110 := by rw [hok.1]; decide
        refine W.last hx hb hc ((xs_J hK).1 _ _) xs_kn (xs_arr hin) rfl rfl hd fun H' e1 e2 e3 => kk _ _ _ _ _ ⟨hN.1, ?_, hN.2.2.1, hN.2.2.2.1, xs_locs h110 hN.2.2.2.2.1, fun z => by rw [hmd] at z; cases z⟩
        refine xm_w_set (a := a) hE hb0 hw hok.2 (by rw [hok.1]; decide) h110 e2 e3 rfl (fun a' hne => ⟨rfl, xs_up_ne _ _ _ _ hne, rfl⟩) ⟨fun z => by rw [hok.1] at z; omega, fun z => by rw [hok.1] at z; omega, fun z => by rw [hok.1] at z; omega, fun _ => ?_, fun z => by rw [hok.1] at z; omega⟩
        rw [e1, arrV_store]
        refine congrArg (fun F => some (arrV _ _ F)) (funext fun z => ?_)
        show (if z = _ then Value.long v else _) = Value.long (xm_up h.2.2.1 a _ v a z)
        rw [xs_up_eq]
        split <;> rfl
      · cases hex
    · cases hex
  · have hl : len = 1 := hlen.resolve_right (show ¬ ((1 : Nat) = 0) by decide)
    subst hl
    simp only [xm_ex] at hex
    split at hex
    · rename_i v x a r
      split at hex
      · rename_i hok
        cases hex
        obtain ⟨hmd, hok, hin, h01⟩ := hok
        simp only [List.map_cons, xm_v]
        have hc := (hw.2.2.1 a hok.2).2.2.1 hok.1
        have h110 : (E.1 a).1 ≠ 110 := by rw [hok.1]; decide
        refine W.zast hx hb hc ((xs_Z hK).1 _ _) xs_kn (xs_arr hin) rfl rfl hd fun H' e1 e2 e3 => kk _ _ _ _ _ ⟨hN.1, ?_, hN.2.2.1, hN.2.2.2.1, xs_locs h110 hN.2.2.2.2.1, fun z => by rw [hmd] at z; cases z⟩
        refine xm_w_set (a := a) hE hb0 hw hok.2 (by rw [hok.1]; decide) h110 e2 e3 rfl (fun a' hne => ⟨xs_up_ne _ _ _ _ hne, rfl, rfl⟩) ⟨fun z => by rw [hok.1] at z; omega, fun z => by rw [hok.1] at z; omega, fun _ => ?_, fun z => by rw [hok.1] at z; omega, fun z => by rw [hok.1] at z; omega⟩
        have hnar : narrow .boolean (.int v) = .int v := by rcases h01 with rfl | rfl <;> rfl
        rw [e1, hnar, arrV_store]
        refine congrArg (fun F => some (arrV _ _ F)) (funext fun z => ?_)
        show (if z = _ then Value.int v else _) = Value.int (xm_up h.2.1 a _ v a z)
        rw [xs_up_eq]
        split <;> rfl
      · cases hex
    · cases hex
  · have hl : len = 1 := hlen.resolve_right (show ¬ ((1 : Nat) = 0) by decide)
    subst hl
    simp only [xm_ex] at hex
    split at hex
    · rename_i v x a r
      split at hex
      · rename_i hok
        cases hex
        obtain ⟨hmd, hv1, hv2, hv3, hok, hin⟩ := hok
        have h110 : (E.1 a).1 ≠ 110 := by rw [hok.1]; omega
        have hk1 : 120 ≤ (E.1 a).1 := by rw [hok.1]; omega
        have hk2 : (E.1 a).1 < 120 + tb_nc := by rw [hok.1]; omega
        have hc := (hw.2.2.1 a hok.2).2.2.2.2 hk1 hk2
        obtain ⟨cv, g1, g2, g3, -⟩ := xs_obj hw hv1 ⟨rfl, hv3⟩
        obtain ⟨kA, comp, k1, k2, k3, -⟩ := (xs_Rf hK hv2).2
        have hcls := (hK.1 _ _ (tb_q_ok _ hv1)).2
        have hcomp : comp = D.1 (E.1 v).1 := Option.some.inj (k3.symm.trans hcls.1)
        subst hcomp
        obtain ⟨kC, hkC, -⟩ := hcls.2
        rw [hok.1] at hc
        simp only [List.map_cons, xm_v]
        have hvL : xm_a E s0.heap.size b v = s0.heap.size + E.2.1 v := xs_L (by omega)
        refine W.aast hx hb hc (fun q z => by cases z) (fun z => by cases z) k1 k2 rfl hkC ⟨fun z => hin (Or.inl z), by rw [arrV_size]; exact xs_inn hin⟩ (by rw [hvL]; exact g1) (fun q z => by rw [g3] at z; cases z) (by rw [g2]; exact hkC) (by rw [g2]; exact va_assign hcls) rfl rfl hd fun H' e1 e2 e3 => kk _ _ _ _ _ ⟨hN.1, ?_, hN.2.2.1, hN.2.2.2.1, xs_locs h110 hN.2.2.2.2.1, fun z => by rw [hmd] at z; cases z⟩
        refine xm_w_set (a := a) hE hb0 hw hok.2 (by rw [hok.1]; omega) h110 e2 e3 rfl (fun a' hne => ⟨rfl, rfl, xs_up_ne _ _ _ _ hne⟩) ⟨fun z => by rw [hok.1] at z; omega, fun z => by rw [hok.1] at z; omega, fun z => by rw [hok.1] at z; omega, fun z => by rw [hok.1] at z; omega, fun _ _ => ?_⟩
        rw [e1, arrV_store, hok.1]
        refine congrArg (fun F => some (arrV _ _ F)) (funext fun z => ?_)
        show (if z = _ then Value.ref (xm_a E s0.heap.size b v) else _) = xm_v _ (xm_q (xm_up h.2.2.2 a _ (some v) a z))
        rw [xs_up_eq]
        split <;> rfl
      · cases hex
    · cases hex
set_option maxHeartbeats 4000000 in
theorem xs_new (hE : xm_Eok E) (hb0 : b < s0.heap.size) (hB : xm_B p s m args meth c D cA j) {pc : Nat} {lv : xm_L} {st : List xm_V} {h : xm_H} {ins : Instr} {len : Nat} (hd : decode (tb_cd j) pc = .ok (ins, len)) (hlen : len = xm_len ins ∨ xm_len ins = 0) {q : xm_F} (hex : xm_ex E md j pc ins len lv st h = some (.inl q))
    (hpl : (∃ i, ins = .new i) ∨ (∃ t, ins = .newarray t) ∨ ∃ i, ins = .anewarray i) (hcap : q.2.2.2.1.1 ≤ h0.1.1 + R.cells ∧ q.2.2.2.1.2 ≤ h0.1.2 + R.slots)
    (kk : xm_Wd p l e R s m args below meth c Q D cA s0 b n xs E md h0 (tb_ml j) q.1 q.2.1 q.2.2.1 q.2.2.2) : xm_Wd p l e R s m args below meth c Q D cA s0 b n xs E md h0 (tb_ml j) pc lv st h := by
  intro ls H locs cells slots hN
  obtain ⟨hx, hb, hml, hlk, hown, hts, hK, hr, hi⟩ := hB
  have hw := hN.2.1
  have hnc := xm_nc
  have hsz : H.size = s0.heap.size + h.1.1 := hw.1
  have hL : (E.1 (E.2.2 h.1.1)).1 ≠ 110 → xm_a E s0.heap.size b (E.2.2 h.1.1) = H.size := by
    intro h9
    rw [xs_L h9, hE.2, hsz]
  have hz : (E.1 (E.2.2 h.1.1)).1 ≠ 110 → ∀ k, h.2.1 (E.2.2 h.1.1) k = 0 ∧ h.2.2.1 (E.2.2 h.1.1) k = 0 ∧ h.2.2.2 (E.2.2 h.1.1) k = none := fun h9 => hw.2.2.2.1 _ h9 (by rw [hE.2]; exact Nat.le_refl _)
  have hcn : h.1.1 = h0.1.1 + cells := hN.2.2.1
  have hsn : h.1.2 = h0.1.2 + slots := hN.2.2.2.1
  rcases hpl with ⟨i, rfl⟩ | ⟨t, rfl⟩ | ⟨i, rfl⟩
  · have hl : len = 3 := hlen.resolve_right (show ¬ ((3 : Nat) = 0) by decide)
    subst hl
    simp only [xm_ex] at hex
    split at hex
    · rename_i ci hci
      split at hex
      · rename_i hok
        cases hex
        obtain ⟨hkd, hmd, hnw⟩ := hok
        obtain ⟨hc, w1, w2, w3⟩ := tb_c_w _ _ _ hci hnw
        have hk1 : (E.1 (E.2.2 h.1.1)).1 = ci := by rw [hkd]
        have h110 : (E.1 (E.2.2 h.1.1)).1 ≠ 110 := by rw [hk1]; omega
        have hq := tb_q_ok ci hc
        have hKn := hK.1 ci _ hq
        have hcap1 : h.1.1 + 1 ≤ h0.1.1 + R.cells := hcap.1
        have hcap2 : h.1.2 + tb_fn ci ≤ h0.1.2 + R.slots := hcap.2
        refine W.newcK hx hb hown (hts _ w1) (hts _ w2) (hts _ w3) rfl hd (by omega) (by omega) hKn.2.1 rfl fun H' kC hkC e1 e2 e3 => ?_
        have hborn := u_born (tb_ty ci) hts (tb_lay ci hc) hKn hkC e1 (tb_ty_ok ci hc)
        have go := kk ls H' locs (cells + 1) (slots + tb_fn ci) ⟨hN.1, ?_, by show h.1.1 + 1 = _; omega, by show h.1.2 + tb_fn ci = _; omega, hN.2.2.2.2.1, hN.2.2.2.2.2⟩
        · simp only [List.map_cons, xm_v, hL h110] at go
          exact go
        · refine xm_w_new hE hb0 hw e2 e3 (fun _ _ => ⟨fun _ => ?_, fun z => by rw [hk1] at z; omega, fun z => by rw [hk1] at z; omega, fun z => by rw [hk1] at z; omega, fun z => by rw [hk1] at z; omega⟩)
          rw [hk1, hL h110]
          refine hborn.to (fun k hk => ?_)
          obtain ⟨z1, z2, z3⟩ := hz h110 k
          rcases tb_ft_ok ci hc k hk with ⟨t1, t2⟩ | ⟨t1, t2⟩ | ⟨t1, t2⟩ | ⟨t1, t2⟩
          · rw [t1, t2]
            show Value.int 0 = Value.int (h.2.1 _ k)
            rw [z1]
          · rw [t1, t2]
            show Value.int 0 = Value.int (h.2.1 _ k)
            rw [z1]
          · rw [t1, t2]
            show Value.long 0 = Value.long (h.2.2.1 _ k)
            rw [z2]
          · rw [t1]
            show _ = xm_v _ (xm_q (h.2.2.2 _ k))
            rw [z3]
            rcases t2 with ⟨z, hz⟩ | ⟨z, hz⟩ <;> rw [hz] <;> rfl
      · cases hex
    · split at hex
      · split at hex <;> cases hex
      · cases hex
  · have hl : len = 2 := hlen.resolve_right (show ¬ ((2 : Nat) = 0) by decide)
    subst hl
    simp only [xm_ex] at hex
    split at hex
    · rename_i x r
      split at hex
      · rename_i hok
        cases hex
        obtain ⟨hn0, h6, hkd, h100, hmd⟩ := hok
        have hcap1 : h.1.1 + 1 ≤ h0.1.1 + R.cells := hcap.1
        have hcap2 : h.1.2 + x.toNatClampNeg ≤ h0.1.2 + R.slots := hcap.2
        have hk2 : (E.1 (E.2.2 h.1.1)).2 = x.toNatClampNeg := by rw [hkd]
        simp only [List.map_cons, xm_v]
        cases t
        case int =>
          have hk1 : (E.1 (E.2.2 h.1.1)).1 = 100 := congrArg Prod.fst hkd
          have h110 : (E.1 (E.2.2 h.1.1)).1 ≠ 110 := by rw [hk1]; decide
          refine va_newaK hx hb (hts _ tb_ai) rfl hd rfl hn0 rfl (by show x.toNatClampNeg * 4 ≤ _; omega) (by omega) (by omega) rfl fun H' cI e1 e2 e3 hAr hNm => ?_
          have hcI : cI = cA 100 := Option.some.inj (hNm.symm.trans (xs_I hK).2)
          subst hcI
          have go := kk ls H' locs (cells + 1) (slots + x.toNatClampNeg) ⟨hN.1, ?_, by show h.1.1 + 1 = _; omega, by show h.1.2 + x.toNatClampNeg = _; omega, hN.2.2.2.2.1, hN.2.2.2.2.2⟩
          · simp only [List.map_cons, xm_v, hL h110] at go
            exact go
          · refine xm_w_new hE hb0 hw e2 e3 (fun _ _ => ⟨fun z => by rw [hk1] at z; omega, fun _ => ?_, fun z => by rw [hk1] at z; omega, fun z => by rw [hk1] at z; omega, fun z => by rw [hk1] at z; omega⟩)
            rw [hL h110, e1, hk2]
            refine congrArg (fun F => some (arrV _ _ F)) (funext fun z => ?_)
            show Value.int 0 = Value.int (h.2.1 _ z)
            rw [(hz h110 z).1]
        case long =>
          have hk1 : (E.1 (E.2.2 h.1.1)).1 = 101 := congrArg Prod.fst hkd
          have h110 : (E.1 (E.2.2 h.1.1)).1 ≠ 110 := by rw [hk1]; decide
          refine va_newaK hx hb (hts _ tb_aj) rfl hd rfl hn0 rfl (by show x.toNatClampNeg * 8 ≤ _; omega) (by omega) (by omega) rfl fun H' cI e1 e2 e3 hAr hNm => ?_
          have hcI : cI = cA 101 := Option.some.inj (hNm.symm.trans (xs_J hK).2)
          subst hcI
          have go := kk ls H' locs (cells + 1) (slots + x.toNatClampNeg) ⟨hN.1, ?_, by show h.1.1 + 1 = _; omega, by show h.1.2 + x.toNatClampNeg = _; omega, hN.2.2.2.2.1, hN.2.2.2.2.2⟩
          · simp only [List.map_cons, xm_v, hL h110] at go
            exact go
          · refine xm_w_new hE hb0 hw e2 e3 (fun _ _ => ⟨fun z => by rw [hk1] at z; omega, fun z => by rw [hk1] at z; omega, fun z => by rw [hk1] at z; omega, fun _ => ?_, fun z => by rw [hk1] at z; omega⟩)
            rw [hL h110, e1, hk2]
            refine congrArg (fun F => some (arrV _ _ F)) (funext fun z => ?_)
            show Value.long 0 = Value.long (h.2.2.1 _ z)
            rw [(hz h110 z).2.1]
        case boolean =>
          have hk1 : (E.1 (E.2.2 h.1.1)).1 = 102 := congrArg Prod.fst hkd
          have h110 : (E.1 (E.2.2 h.1.1)).1 ≠ 110 := by rw [hk1]; decide
          refine va_newaK hx hb (hts _ tb_az) rfl hd rfl hn0 rfl (by show x.toNatClampNeg * 1 ≤ _; omega) (by omega) (by omega) rfl fun H' cI e1 e2 e3 hAr hNm => ?_
          have hcI : cI = cA 102 := Option.some.inj (hNm.symm.trans (xs_Z hK).2)
          subst hcI
          have go := kk ls H' locs (cells + 1) (slots + x.toNatClampNeg) ⟨hN.1, ?_, by show h.1.1 + 1 = _; omega, by show h.1.2 + x.toNatClampNeg = _; omega, hN.2.2.2.2.1, hN.2.2.2.2.2⟩
          · simp only [List.map_cons, xm_v, hL h110] at go
            exact go
          · refine xm_w_new hE hb0 hw e2 e3 (fun _ _ => ⟨fun z => by rw [hk1] at z; omega, fun z => by rw [hk1] at z; omega, fun _ => ?_, fun z => by rw [hk1] at z; omega, fun z => by rw [hk1] at z; omega⟩)
            rw [hL h110, e1, hk2]
            refine congrArg (fun F => some (arrV _ _ F)) (funext fun z => ?_)
            show Value.int 0 = Value.int (h.2.1 _ z)
            rw [(hz h110 z).1]
        all_goals (exfalso; have h9 := congrArg Prod.fst hkd; rw [h9] at h100; exact absurd h100 (show ¬ (100 ≤ (0 : Nat)) by decide))
      · cases hex
    · cases hex
  · have hl : len = 3 := hlen.resolve_right (show ¬ ((3 : Nat) = 0) by decide)
    subst hl
    simp only [xm_ex] at hex
    split at hex
    · rename_i x r ci hci
      split at hex
      · rename_i hok
        cases hex
        obtain ⟨hn0, h6, hmd, hra, hkd⟩ := hok
        obtain ⟨hc, w1, w2⟩ := tb_c_a _ _ _ hci hra
        have hcap1 : h.1.1 + 1 ≤ h0.1.1 + R.cells := hcap.1
        have hcap2 : h.1.2 + x.toNatClampNeg ≤ h0.1.2 + R.slots := hcap.2
        have hk1 : (E.1 (E.2.2 h.1.1)).1 = 120 + ci := by rw [hkd]
        have hk2 : (E.1 (E.2.2 h.1.1)).2 = x.toNatClampNeg := by rw [hkd]
        have h110 : (E.1 (E.2.2 h.1.1)).1 ≠ 110 := by rw [hk1]; omega
        simp only [List.map_cons, xm_v]
        refine W.anew hx hb hown (hts _ w1) (hts _ w2) rfl hd rfl hn0 (by omega) (by omega) (by omega) fun cI kA comp f1 f2 f3 f4 => ?_
        generalize hH1 : H.push ({ cls := cI, slots := Array.replicate x.toNatClampNeg .null, vm := .none } : Cell) = H1
        have z1 : H1.size = H.size + 1 := by rw [← hH1, Array.size_push]
        have e1 : H1[H.size]? = some (arrV cI x.toNatClampNeg (fun _ => .null)) := by rw [← hH1, Array.getElem?_push_size, ← arrV_new]
        have o1 : ∀ q : Nat, q < H.size → H1[q]? = H[q]? := fun q hq => by rw [← hH1, Array.getElem?_push, if_neg (Nat.ne_of_lt hq)]
        obtain ⟨-, -, -, -, -, hNm⟩ := (xs_Rf hK hra).2
        have hcI : cI = cA (120 + ci) := Option.some.inj (f1.symm.trans hNm)
        subst hcI
        have go := kk ls H1 locs (cells + 1) (slots + x.toNatClampNeg) ⟨hN.1, ?_, by show h.1.1 + 1 = _; omega, by show h.1.2 + x.toNatClampNeg = _; omega, hN.2.2.2.2.1, hN.2.2.2.2.2⟩
        · simp only [List.map_cons, xm_v, hL h110] at go
          exact go
        · refine xm_w_new hE hb0 hw z1 o1 (fun _ _ => ⟨fun z => by rw [hk1] at z; omega, fun z => by rw [hk1] at z; omega, fun z => by rw [hk1] at z; omega, fun z => by rw [hk1] at z; omega, fun _ _ => ?_⟩)
          rw [hL h110, e1, hk2, hk1]
          refine congrArg (fun F => some (arrV _ _ F)) (funext fun z => ?_)
          show Value.null = xm_v _ (xm_q (h.2.2.2 _ z))
          rw [(hz h110 z).2.2]
          rfl
      · cases hex
    · cases hex
theorem xs_init (hB : xm_B p s m args meth c D cA j) (hR : 1 ≤ R.frames ∧ 30 ≤ R.locals) {pc i : Nat} {lv : xm_L} {st : List xm_V} {h : xm_H} {len : Nat} (hd : decode (tb_cd j) pc = .ok (.invokespecial i, len)) (hlen : len = xm_len (.invokespecial i) ∨ xm_len (.invokespecial i) = 0) {q : xm_F} (hex : xm_ex E md j pc (.invokespecial i) len lv st h = some (.inl q))
    (kk : xm_Wd p l e R s m args below meth c Q D cA s0 b n xs E md h0 (tb_ml j) q.1 q.2.1 q.2.2.1 q.2.2.2) : xm_Wd p l e R s m args below meth c Q D cA s0 b n xs E md h0 (tb_ml j) pc lv st h := by
  intro ls H locs cells slots hN
  obtain ⟨hx, hb, hml, hlk, hown, hts, hK, hr, hi⟩ := hB
  have hl : len = 3 := hlen.resolve_right (show ¬ ((3 : Nat) = 0) by decide)
  subst hl
  simp only [xm_ex] at hex
  split at hex
  · split at hex
    · split at hex <;> cases hex
    · cases hex
  · rename_i y hy
    split at hex
    · rename_i a r
      split at hex
      · rename_i hw8
        cases hex
        obtain ⟨w1, w2, w3⟩ := tb_m_o _ _ _ hy
        simp only [List.map_cons, xm_v]
        have hwt : ((r.map (xm_v (xm_a E s0.heap.size b))).map fun v => v.category).sum ≤ 8 := by rw [xm_map_cat]; exact hw8
        refine W.objInit hx hb hown (hts _ w1) (hts _ w2) (hts _ w3) rfl (by rw [hml]; exact hN.1.2.1) rfl hd hR.1 ?_ (kk _ _ _ _ _ hN)
        show 2 * (0 : Nat) + _ + 12 ≤ _
        omega
      · cases hex
    · cases hex
  · cases hex
end XS2
