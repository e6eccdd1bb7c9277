/-! The whole: a call of the small machine is a contract of the real one. -/
section XM
variable {l : Launch} {p : Program} {e : Env} {R : Room} {s : State} {m : MethodId} {args : Array Value} {below : List Frame} {meth : Method} {c : Code} {Q : State → Prop}
variable {D : va_G} {cA : Nat → ClassId} {s0 : State} {b n : Nat} {xs : Nat → Int32} {E : xm_E} {md : Bool} {j : Nat} {h0 : xm_H}
theorem xk_pv {h h' : xm_H} {a : xm_I} {t k : Nat} {v : xm_V} (hp : xm_pv h a t k v = some h') : h'.1 = h.1 := by
  unfold xm_pv at hp
  split at hp
  · cases hp; rfl
  · split at hp
    · cases hp; rfl
    · cases hp
  · cases hp; rfl
  · cases hp; rfl
  · cases hp
set_option maxHeartbeats 4000000 in
theorem xk_cnt {pc : Nat} {lv : xm_L} {st : List xm_V} {h : xm_H} {ins : Instr} {len : Nat} {q : xm_F} (hex : xm_ex E md j pc ins len lv st h = some (.inl q)) : q.2.2.2.1 = h.1 ∨ (md = true ∧ h.1.1 ≤ q.2.2.2.1.1 ∧ h.1.2 ≤ q.2.2.2.1.2) := by
  cases ins
  case new i =>
    simp only [xm_ex] at hex
    split at hex
    · split at hex
      · rename_i hok
        cases hex
        exact Or.inr ⟨hok.2.1, Nat.le_succ _, Nat.le_add_right _ _⟩
      · cases hex
    · split at hex
      · split at hex <;> cases hex
      · cases hex
  case newarray t =>
    simp only [xm_ex] at hex
    split at hex
    · split at hex
      · rename_i hok
        cases hex
        exact Or.inr ⟨hok.2.2.2.2, Nat.le_succ _, Nat.le_add_right _ _⟩
      · cases hex
    · cases hex
  case anewarray i =>
    simp only [xm_ex] at hex
    split at hex
    · split at hex
      · rename_i hok
        cases hex
        exact Or.inr ⟨hok.2.2.1, Nat.le_succ _, Nat.le_add_right _ _⟩
      · cases hex
    · cases hex
  case putfield i =>
    simp only [xm_ex] at hex
    split at hex
    · split at hex
      · split at hex
        · split at hex
          · rename_i hpv
            cases hex
            exact Or.inl (xk_pv hpv)
          · cases hex
        · cases hex
      · cases hex
    · cases hex
  all_goals
    simp only [xm_ex, xm_ii, xm_ll, xm_li, xm_ld1, xm_sto, xm_br] at hex
    repeat' split at hex
    all_goals first | (cases hex; exact Or.inl rfl) | (cases hex; done)
set_option maxHeartbeats 4000000 in
theorem xk_out {pc : Nat} {lv : xm_L} {st : List xm_V} {h : xm_H} {ins : Instr} {len : Nat} {o : xm_O} (hex : xm_ex E md j pc ins len lv st h = some (.inr (.inl o))) :
    ((ins = .ireturn ∨ ins = .lreturn ∨ ins = .return_) ∧ ∃ v, o = (.inl v, h)) ∨ (md = false ∧ ∃ i x, ins = .new i ∧ o = (.inr (E.2.2 h.1.1, x), xm_new h 6)) := by
  cases ins
  case new i =>
    simp only [xm_ex] at hex
    split at hex
    · split at hex <;> cases hex
    · split at hex
      · split at hex
        · rename_i hok
          cases hex
          exact Or.inr ⟨hok.2.1, i, _, rfl, rfl⟩
        · cases hex
      · cases hex
  case ireturn =>
    simp only [xm_ex] at hex
    split at hex
    · split at hex
      · cases hex
        exact Or.inl ⟨Or.inl rfl, _, rfl⟩
      · cases hex
    · cases hex
  case lreturn =>
    simp only [xm_ex] at hex
    split at hex
    · split at hex
      · cases hex
        exact Or.inl ⟨Or.inr (Or.inl rfl), _, rfl⟩
      · cases hex
    · cases hex
  case return_ =>
    simp only [xm_ex] at hex
    split at hex
    · cases hex
      exact Or.inl ⟨Or.inr (Or.inr rfl), _, rfl⟩
    · cases hex
  all_goals
    exfalso
    simp only [xm_ex, xm_ii, xm_ll, xm_li, xm_ld1, xm_sto, xm_br] at hex
    repeat' split at hex
    all_goals first | (cases hex; done)
/-- the three ways to call -/
def xk_K (E : xm_E) (j : Nat) (ins : Instr) (st : List xm_V) (h : xm_H) (q : Nat × List xm_V × List xm_V) : Prop :=
  (∃ i, ins = .invokestatic i ∧ tb_m (tb_ow j) i = some (1, q.1) ∧ tb_np q.1 ≤ st.length ∧ q.2.1 = xm_pops (tb_np q.1) st ∧ q.2.2 = st.drop (tb_np q.1)) ∨
  (∃ i a, ins = .invokevirtual i ∧ tb_m (tb_ow j) i = some (0, q.1) ∧ st.drop (tb_np q.1) = xm_r a :: q.2.2 ∧ xm_ok E h a (tb_kc q.1) ∧ tb_kc q.1 < tb_nc ∧ q.2.1 = xm_r a :: xm_pops (tb_np q.1) st) ∨
  (∃ i a, ins = .invokespecial i ∧ tb_m (tb_ow j) i = some (2, q.1) ∧ st.drop (tb_np q.1) = xm_r a :: q.2.2 ∧ q.2.1 = xm_r a :: xm_pops (tb_np q.1) st)
set_option maxHeartbeats 4000000 in
theorem xk_call {pc : Nat} {lv : xm_L} {st : List xm_V} {h : xm_H} {ins : Instr} {len : Nat} {q : Nat × List xm_V × List xm_V} (hex : xm_ex E md j pc ins len lv st h = some (.inr (.inr q))) : xm_w8 q.2.2 ∧ xk_K E j ins st h q := by
  cases ins
  case invokestatic i =>
    simp only [xm_ex] at hex
    split at hex
    · rename_i y hy
      split at hex
      · rename_i hok
        cases hex
        exact ⟨hok.2, Or.inl ⟨i, rfl, hy, hok.1, rfl, rfl⟩⟩
      · cases hex
    · cases hex
  case invokevirtual i =>
    simp only [xm_ex] at hex
    split at hex
    · rename_i y hy
      split at hex
      · rename_i a r hst
        split at hex
        · rename_i hok
          cases hex
          exact ⟨hok.2.2, Or.inr (Or.inl ⟨i, a, rfl, hy, hst, hok.1, hok.2.1, rfl⟩)⟩
        · cases hex
      · cases hex
    · cases hex
  case invokespecial i =>
    simp only [xm_ex] at hex
    split at hex
    · rename_i y hy
      split at hex
      · rename_i a r hst
        split at hex
        · rename_i hok
          cases hex
          exact ⟨hok, Or.inr (Or.inr ⟨i, a, rfl, hy, hst, rfl⟩)⟩
        · cases hex
      · cases hex
    · split at hex
      · split at hex <;> cases hex
      · cases hex
    · cases hex
  case new i =>
    exfalso
    simp only [xm_ex] at hex
    split at hex
    · split at hex <;> cases hex
    · split at hex
      · split at hex <;> cases hex
      · cases hex
  all_goals
    exfalso
    simp only [xm_ex, xm_ii, xm_ll, xm_li, xm_ld1, xm_sto, xm_br] at hex
    repeat' split at hex
    all_goals first | (cases hex; done)
/-- counters only grow; where nothing may be written they stay, but for the thing thrown -/
def xk_C (md : Bool) (h : xm_H) (o : xm_O) : Prop := h.1.1 ≤ o.2.1.1 ∧ h.1.2 ≤ o.2.1.2 ∧ (md = false → (∀ v, o.1 = .inl v → o.2.1 = h.1) ∧ ∀ x, o.1 = .inr x → o.2.1 = (h.1.1 + 1, h.1.2 + 6)) ∧ ∀ x, o.1 = .inr x → md = false
theorem xk_R {C : Bool → Nat → List xm_V → xm_H → xm_O → Prop} (hC : ∀ md' y as h o, C md' y as h o → xk_C md' h o) : ∀ (f pc : Nat) (lv : xm_L) (st : List xm_V) (h : xm_H) (o : xm_O), xm_R E C md j f pc lv st h o → xk_C md h o := by
  intro f
  induction f with
  | zero => intro pc lv st h o hR; exact hR.elim
  | succ f ih =>
    intro pc lv st h o hR
    obtain ⟨ins, len, r, hd, hlen, hex, hr⟩ := hR
    rcases r with q | o' | q
    · obtain ⟨i1, i2, i3, i4⟩ := ih _ _ _ _ _ hr
      rcases xk_cnt hex with hc | ⟨hmd, c1, c2⟩
      · rw [hc] at i1 i2 i3
        exact ⟨i1, i2, i3, i4⟩
      · exact ⟨Nat.le_trans c1 i1, Nat.le_trans c2 i2, (fun z => by rw [hmd] at z; cases z), i4⟩
    · have hr' : o = o' := hr
      subst hr'
      rcases xk_out hex with ⟨-, v, rfl⟩ | ⟨hmd, i, x, -, rfl⟩
      · exact ⟨Nat.le_refl _, Nat.le_refl _, fun _ => ⟨fun _ _ => rfl, fun x hx => by cases hx⟩, fun x hx => by cases hx⟩
      · exact ⟨Nat.le_succ _, Nat.le_add_right _ _, fun _ => ⟨fun v hv => (by cases hv), fun _ _ => rfl⟩, fun _ _ => hmd⟩
    · obtain ⟨md', o', hmd', hCo, hr⟩ := hr
      obtain ⟨k1, k2, k3, k4⟩ := hC _ _ _ _ _ hCo
      rcases o' with ⟨v | x, h'⟩
      · obtain ⟨i1, i2, i3, i4⟩ := ih _ _ _ _ _ hr
        refine ⟨Nat.le_trans k1 i1, Nat.le_trans k2 i2, fun hmd => ?_, i4⟩
        have hm' : md' = false := by
          cases h9 : md' with
          | false => rfl
          | true => rw [hmd' h9] at hmd; cases hmd
        have e : h'.1 = h.1 := (k3 hm').1 v rfl
        have i3' := i3 hmd
        rw [e] at i3'
        exact i3'
      · obtain ⟨hmd, -, t, -, hr⟩ := hr
        obtain ⟨i1, i2, i3, i4⟩ := ih _ _ _ _ _ hr
        exact ⟨Nat.le_trans k1 i1, Nat.le_trans k2 i2, (fun z => by rw [hmd] at z; cases z), i4⟩
theorem xk_Cd : ∀ (d : Nat) (md : Bool) (y : Nat) (as : List xm_V) (h : xm_H) (o : xm_O), xm_C E d md y as h o → xk_C md h o := by
  intro d
  induction d with
  | zero => intro md y as h o hC; exact hC.elim
  | succ d ih =>
    intro md y as h o hC
    obtain ⟨-, -, -, f, hR⟩ := hC
    exact xk_R ih _ _ _ _ _ _ hR
theorem xk_hdx (hall : ∀ q ∈ tb_h j, q.2.2.2 ≠ 0 ∧ ∃ x, tb_x (tb_ow j) q.2.2.2 = some x ∧ x < tb_nx) {pc x t : Nat} (hh : xm_hd j pc x = some t) : x < tb_nx := by
  unfold xm_hd at hh
  obtain ⟨q, hq, hp, -⟩ := tb_find hh
  obtain ⟨-, x', h1, h2⟩ := hall q hq
  simp only [Bool.and_eq_true, decide_eq_true_eq] at hp
  rw [hp.2] at h1
  cases h1
  exact h2
/-- the rows of a handler table -/
theorem xk_hd (hts : ∀ w ∈ tb_W, w.before args s = true) (hown : s.vm.findClass (tb_cn (tb_ow j)) = some m.cls) (hadm : e.platform.magicAccessors = ({} : Platform).magicAccessors) (hNA : xm_NA s) (hall : ∀ q ∈ tb_h j, q.2.2.2 ≠ 0 ∧ ∃ x, tb_x (tb_ow j) q.2.2.2 = some x ∧ x < tb_nx) {pc x t : Nat} (hx : x < tb_nx) {cc : ClassId} (hcc : s.vm.findClass (tb_xn x) = some cc) (hh : xm_hd j pc x = some t) :
    xc_P s.vm e.platform m.cls pc cc t (tableOf (tb_h j)) := by
  unfold xm_hd at hh
  generalize tb_h j = rows at hh hall ⊢
  induction rows with
  | nil => cases hh
  | cons r rows ih =>
    have hr := hall r List.mem_cons_self
    have ih' := fun h9 => ih h9 (fun q hq => hall q (List.mem_cons_of_mem _ hq))
    obtain ⟨h0, x', hx', hx3⟩ := hr
    have hcons : ∀ b : Bool, (decide (r.1 ≤ pc) && decide (pc < r.2.1) && decide (tb_x (tb_ow j) r.2.2.2 = some x)) = b → ((r :: rows).find? (fun q => decide (q.1 ≤ pc) && decide (pc < q.2.1) && decide (tb_x (tb_ow j) q.2.2.2 = some x))) = if b = true then some r else rows.find? (fun q => decide (q.1 ≤ pc) && decide (pc < q.2.1) && decide (tb_x (tb_ow j) q.2.2.2 = some x)) := by
      intro b hb
      rw [List.find?_cons, hb]
      cases b <;> rfl
    by_cases hcv : r.1 ≤ pc ∧ pc < r.2.1
    · have hcov : covers ⟨r.1, r.2.1, r.2.2.1, r.2.2.2⟩ pc = true := by simp [covers, hcv]
      obtain ⟨k, hk1, hk2⟩ := Cond.classLink_spec hown (hts _ (tb_x_w _ _ _ hx').1) e.platform hadm
      obtain ⟨k1, k2, n1, n2, n3⟩ := hNA x x' hx hx3
      cases hcc.symm.trans n1
      cases hk1.symm.trans n2
      refine Or.inr ⟨hcov, h0, k, hk2, Vm.classAt_of_findClass hk1, ?_⟩
      by_cases hxx : x = x'
      · left
        subst hxx
        rw [hcons true (by simp [hcv, hx']), if_pos rfl] at hh
        cases hh
        exact ⟨by rw [n3]; simp, rfl⟩
      · right
        rw [hcons false (by simp [hcv, hx', Ne.symm hxx]), if_neg (by decide)] at hh
        exact ⟨by rw [n3]; simp [hxx], ih' hh⟩
    · left
      have hcov : covers ⟨r.1, r.2.1, r.2.2.1, r.2.2.2⟩ pc = false := by
        simp only [covers, Bool.and_eq_false_imp, decide_eq_true_eq, decide_eq_false_iff_not]
        exact fun a1 a2 => hcv ⟨a1, a2⟩
      rw [hcons false (by rw [Bool.and_eq_false_iff]; left; rw [Bool.and_eq_false_iff, decide_eq_false_iff_not, decide_eq_false_iff_not]; by_cases h9 : r.1 ≤ pc; exact Or.inr (fun z => hcv ⟨h9, z⟩); exact Or.inl h9), if_neg (by decide)] at hh
      exact ⟨hcov, ih' hh⟩
end XM
