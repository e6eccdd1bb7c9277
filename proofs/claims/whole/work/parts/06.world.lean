/-! How the small machine's locals and heap lie in the real one. -/
def xm_a (E : xm_E) (z b : Nat) (a : xm_I) : Nat := if (E.1 a).1 = 110 then b else z + E.2.1 a
def xm_v (L : xm_I → Nat) (v : xm_V) : Value := match v with
  | .inl x => .int x
  | .inr (.inl x) => .long x
  | .inr (.inr none) => .null
  | .inr (.inr (some a)) => .ref (L a)
theorem xm_v_cat (L : xm_I → Nat) (v : xm_V) : (xm_v L v).category = xm_cat v := by
  rcases v with x | x | _ | a <;> rfl
theorem xm_map_cat (L : xm_I → Nat) (st : List xm_V) : ((st.map (xm_v L)).map fun v => v.category) = st.map xm_cat := by
  rw [List.map_map]
  exact List.map_congr_left fun v _ => xm_v_cat L v
def xm_lv (L : xm_I → Nat) (lv : xm_L) : List (Nat × Value) := (List.range lv.length).filterMap (fun i => (xm_ld lv i).map (fun v => (i, xm_v L v)))
theorem xm_ld_lt {lv : xm_L} {i : Nat} {v : xm_V} (h : xm_ld lv i = some v) : i < lv.length := by
  unfold xm_ld at h
  split at h
  · rename_i w hw
    exact (List.getElem?_eq_some_iff.mp hw).1
  · cases h
theorem xm_lv_mem {L : xm_I → Nat} {lv : xm_L} {q : Nat × Value} : q ∈ xm_lv L lv ↔ ∃ v, xm_ld lv q.1 = some v ∧ q.2 = xm_v L v := by
  unfold xm_lv
  rw [List.mem_filterMap]
  constructor
  · rintro ⟨i, -, hi⟩
    cases hv : xm_ld lv i with
    | none => rw [hv] at hi; cases hi
    | some v =>
      rw [hv] at hi
      cases hi
      exact ⟨v, hv, rfl⟩
  · rintro ⟨v, hv, hq⟩
    refine ⟨q.1, List.mem_range.mpr (xm_ld_lt hv), ?_⟩
    rw [hv, Option.map_some, ← hq]
theorem xm_ld_set (lv : xm_L) (i k : Nat) (x : Option xm_V) : xm_ld (lv.set i x) k = if i = k ∧ i < lv.length then x else xm_ld lv k := by
  unfold xm_ld
  rw [List.getElem?_set]
  by_cases h : i = k
  · subst h
    by_cases hl : i < lv.length
    · rw [if_pos rfl, if_pos hl, if_pos ⟨rfl, hl⟩]
      cases x <;> rfl
    · rw [if_pos rfl, if_neg hl, if_neg (fun q => hl q.2), List.getElem?_eq_none (Nat.not_lt.mp hl)]
  · rw [if_neg h, if_neg (fun q => h q.1)]
theorem xm_cut_len (lv : xm_L) (i : Nat) : (xm_cut lv i).length = lv.length := by
  cases i with
  | zero => rfl
  | succ m =>
    show (match lv[m]? with | some (some (.inr (.inl _))) => lv.set m none | _ => lv).length = _
    split
    · rw [List.length_set]
    · rfl
theorem xm_ld_cut {lv : xm_L} {i k : Nat} {u : xm_V} (h : xm_ld (xm_cut lv i) k = some u) : xm_ld lv k = some u ∧ ¬ (k + 1 = i ∧ xm_cat u = 2) := by
  cases i with
  | zero => exact ⟨h, fun q => by cases q.1⟩
  | succ m =>
    have e0 : xm_cut lv (m + 1) = (match lv[m]? with | some (some (.inr (.inl _))) => lv.set m none | _ => lv) := rfl
    rw [e0] at h
    split at h
    · rename_i x hx
      rw [xm_ld_set] at h
      by_cases hk : m = k ∧ m < lv.length
      · rw [if_pos hk] at h; cases h
      · rw [if_neg hk] at h
        exact ⟨h, fun q => hk ⟨by omega, (List.getElem?_eq_some_iff.mp hx).1⟩⟩
    · rename_i hno
      refine ⟨h, fun q => ?_⟩
      have hk : k = m := by omega
      subst hk
      rcases u with x | x | x
      · exact absurd q.2 (show ¬ ((1 : Nat) = 2) by decide)
      · unfold xm_ld at h
        split at h
        · rename_i w hw
          cases h
          exact hno x hw
        · cases h
      · exact absurd q.2 (show ¬ ((1 : Nat) = 2) by decide)
def xm_lo (L : xm_I → Nat) (ls : Array Slot) (n : Nat) (lv : xm_L) : Prop := lv.length = n ∧ lv_has ls n (xm_lv L lv)
theorem xm_lo_at {L : xm_I → Nat} {ls : Array Slot} {n i : Nat} {lv : xm_L} {v : xm_V} (h : xm_lo L ls n lv) (hv : xm_ld lv i = some v) : ls[i]? = some (.val (xm_v L v)) := h.2.2.2 (i, xm_v L v) (xm_lv_mem.mpr ⟨v, hv, rfl⟩)
theorem xm_lo1 {L : xm_I → Nat} {ls ls' : Array Slot} {n i : Nat} {lv : xm_L} {v : xm_V} (h : xm_lo L ls n lv)
    (h' : lv_has ls' n ((i, xm_v L v) :: (xm_lv L lv).filter (fun q => !(q.1 == i) && !(q.1 + 1 == i && q.2.category == 2)))) : xm_lo L ls' n (xm_st1 lv i v) := by
  refine ⟨by unfold xm_st1; rw [List.length_set, xm_cut_len]; exact h.1, h'.1, h'.2.1, fun q hq => h'.2.2 q ?_⟩
  obtain ⟨u, hu, hq2⟩ := xm_lv_mem.mp hq
  unfold xm_st1 at hu
  rw [xm_ld_set] at hu
  by_cases hk : i = q.1 ∧ i < (xm_cut lv i).length
  · rw [if_pos hk] at hu
    cases hu
    have : q = (i, xm_v L v) := Prod.ext hk.1.symm hq2
    rw [this]
    exact List.mem_cons_self
  · rw [if_neg hk] at hu
    obtain ⟨h1, h2⟩ := xm_ld_cut hu
    have hne : ¬ q.1 = i := fun e => hk ⟨e.symm, by rw [xm_cut_len, ← e]; exact xm_ld_lt h1⟩
    refine List.mem_cons_of_mem _ (List.mem_filter.mpr ⟨xm_lv_mem.mpr ⟨u, h1, hq2⟩, ?_⟩)
    have hc : q.2.category = xm_cat u := by rw [hq2, xm_v_cat]
    simp only [Bool.and_eq_true, Bool.not_eq_true', beq_eq_false_iff_ne, ne_eq, Bool.and_eq_false_imp, beq_iff_eq, hc]
    exact ⟨hne, fun e e2 => h2 ⟨e, e2⟩⟩
theorem xm_lo2 {L : xm_I → Nat} {ls ls' : Array Slot} {n i : Nat} {lv : xm_L} {v : xm_V} (h : xm_lo L ls n lv)
    (h' : lv_has ls' n ((i, xm_v L v) :: (xm_lv L lv).filter (fun q => !(q.1 == i) && (!(q.1 == i + 1) && !(q.1 + 1 == i && q.2.category == 2))))) : xm_lo L ls' n (xm_st2 lv i v) := by
  refine ⟨by unfold xm_st2; rw [List.length_set, List.length_set, xm_cut_len]; exact h.1, h'.1, h'.2.1, fun q hq => h'.2.2 q ?_⟩
  obtain ⟨u, hu, hq2⟩ := xm_lv_mem.mp hq
  unfold xm_st2 at hu
  rw [xm_ld_set] at hu
  by_cases hk2 : i + 1 = q.1 ∧ i + 1 < ((xm_cut lv i).set i (some v)).length
  · rw [if_pos hk2] at hu; cases hu
  rw [if_neg hk2, xm_ld_set] at hu
  by_cases hk : i = q.1 ∧ i < (xm_cut lv i).length
  · rw [if_pos hk] at hu
    cases hu
    have : q = (i, xm_v L v) := Prod.ext hk.1.symm hq2
    rw [this]
    exact List.mem_cons_self
  · rw [if_neg hk] at hu
    obtain ⟨h1, h2⟩ := xm_ld_cut hu
    have hlt := xm_ld_lt h1
    have hne : ¬ q.1 = i := fun e => hk ⟨e.symm, by rw [xm_cut_len, ← e]; exact hlt⟩
    have hne2 : ¬ q.1 = i + 1 := fun e => hk2 ⟨e.symm, by rw [List.length_set, xm_cut_len, ← e]; exact hlt⟩
    refine List.mem_cons_of_mem _ (List.mem_filter.mpr ⟨xm_lv_mem.mpr ⟨u, h1, hq2⟩, ?_⟩)
    have hc : q.2.category = xm_cat u := by rw [hq2, xm_v_cat]
    simp only [Bool.and_eq_true, Bool.not_eq_true', beq_eq_false_iff_ne, ne_eq, Bool.and_eq_false_imp, beq_iff_eq, hc]
    exact ⟨hne, hne2, fun e e2 => h2 ⟨e, e2⟩⟩
theorem xm_args_len (L : xm_I → Nat) (as : List xm_V) : (lg_sl (as.map (xm_v L))).length = (xm_args as).length := by
  induction as with
  | nil => rfl
  | cons v vs ih =>
    have e : lg_sl ((v :: vs).map (xm_v L)) = (if (xm_v L v).category = 2 then [.val (xm_v L v), .second] else [.val (xm_v L v)]) ++ lg_sl (vs.map (xm_v L)) := rfl
    rw [e, List.length_append, ih]
    rcases v with x | x | _ | a <;> simp [xm_args, xm_v, Value.category] <;> omega
theorem xm_args_mem (L : xm_I → Nat) (u : xm_V) : ∀ (as : List xm_V) (k off : Nat), xm_ld (xm_args as) k = some u → (off + k, xm_v L u) ∈ lv_args off (as.map (xm_v L)) := by
  intro as
  induction as with
  | nil => intro k off h; simp [xm_args, xm_ld] at h
  | cons v vs ih =>
    intro k off h
    have one : xm_cat v = 1 → xm_args (v :: vs) = some v :: xm_args vs := by
      intro hc
      rcases v with x | x | x
      · rfl
      · exact absurd hc (show ¬ ((2 : Nat) = 1) by decide)
      · rfl
    have two : xm_cat v = 2 → xm_args (v :: vs) = some v :: none :: xm_args vs := by
      intro hc
      rcases v with x | x | x
      · exact absurd hc (show ¬ ((1 : Nat) = 2) by decide)
      · rfl
      · exact absurd hc (show ¬ ((1 : Nat) = 2) by decide)
    have hca : (xm_v L v).category = xm_cat v := xm_v_cat L v
    show (off + k, xm_v L u) ∈ (off, xm_v L v) :: lv_args (if (xm_v L v).category = 2 then off + 2 else off + 1) (vs.map (xm_v L))
    have h12 : xm_cat v = 1 ∨ xm_cat v = 2 := by rcases v with x | x | x <;> simp [xm_cat]
    rcases h12 with hc | hc
    · rw [hca, hc, if_neg (by decide)]
      rw [one hc] at h
      cases k with
      | zero =>
        simp [xm_ld] at h
        subst h
        exact List.mem_cons_self
      | succ k =>
        have h' : xm_ld (xm_args vs) k = some u := by simpa [xm_ld] using h
        have := ih k (off + 1) h'
        rw [show off + (k + 1) = off + 1 + k by omega]
        exact List.mem_cons_of_mem _ this
    · rw [hca, hc, if_pos rfl]
      rw [two hc] at h
      cases k with
      | zero =>
        simp [xm_ld] at h
        subst h
        exact List.mem_cons_self
      | succ k =>
        cases k with
        | zero => simp [xm_ld] at h
        | succ k =>
          have h' : xm_ld (xm_args vs) k = some u := by simpa [xm_ld] using h
          have := ih k (off + 2) h'
          rw [show off + (k + 1 + 1) = off + 2 + k by omega]
          exact List.mem_cons_of_mem _ this
theorem xm_lo_ent (L : xm_I → Nat) (as : List xm_V) {n : Nat} (h : (xm_args as).length ≤ n) :
    xm_lo L ((lg_sl (as.map (xm_v L)) ++ List.replicate (n - (lg_sl (as.map (xm_v L))).length) Slot.unset).toArray) n (xm_ent as n) := by
  have hl := lv_entry (as.map (xm_v L)) (n := n) (by rw [xm_args_len]; exact h)
  refine ⟨by unfold xm_ent; rw [List.length_append, List.length_replicate]; omega, hl.1, hl.2.1, fun q hq => hl.2.2 q ?_⟩
  obtain ⟨u, hu, hq2⟩ := xm_lv_mem.mp hq
  have h1 : xm_ld (xm_args as) q.1 = some u := by
    unfold xm_ent xm_ld at hu
    unfold xm_ld
    rw [List.getElem?_append] at hu
    by_cases hlt : q.1 < (xm_args as).length
    · rw [if_pos hlt] at hu; exact hu
    · rw [if_neg hlt, List.getElem?_replicate] at hu
      split at hu <;> rename_i w hw
      · split at hw <;> cases hw
      · cases hu
  have := xm_args_mem L u as q.1 0 h1
  rw [Nat.zero_add] at this
  rw [show q = (q.1, xm_v L u) from Prod.ext rfl hq2]
  exact this
/-- a cell of the real heap holds what the small one says of an id -/
def xm_at (D : va_G) (cA : Nat → ClassId) (E : xm_E) (L : xm_I → Nat) (h : xm_H) (H : Heap) (a : xm_I) : Prop :=
  ((E.1 a).1 < tb_nc → t_OB (L a) (D.1 (E.1 a).1) (tb_fn (E.1 a).1) (D.2 (E.1 a).1) H (fun k => xm_v L (xm_fv h a (tb_ft (E.1 a).1 k) k))) ∧
  ((E.1 a).1 = 100 → H[L a]? = some (arrV (cA 100) (E.1 a).2 (fun j => .int (h.2.1 a j)))) ∧
  ((E.1 a).1 = 102 → H[L a]? = some (arrV (cA 102) (E.1 a).2 (fun j => .int (h.2.1 a j)))) ∧
  ((E.1 a).1 = 101 → H[L a]? = some (arrV (cA 101) (E.1 a).2 (fun j => .long (h.2.2.1 a j)))) ∧
  (120 ≤ (E.1 a).1 → (E.1 a).1 < 120 + tb_nc → H[L a]? = some (arrV (cA (E.1 a).1) (E.1 a).2 (fun j => xm_v L (xm_q (h.2.2.2 a j)))))
theorem xm_at_eq {D : va_G} {cA : Nat → ClassId} {E : xm_E} {L : xm_I → Nat} {h h' : xm_H} {H H' : Heap} {a : xm_I} (hH : H'[L a]? = H[L a]?) (h1 : h'.2.1 a = h.2.1 a) (h2 : h'.2.2.1 a = h.2.2.1 a) (h3 : h'.2.2.2 a = h.2.2.2 a) (hat : xm_at D cA E L h H a) : xm_at D cA E L h' H' a := by
  have hf : ∀ t k, xm_fv h' a t k = xm_fv h a t k := by
    intro t k
    unfold xm_fv
    rw [h1, h2, h3]
  obtain ⟨b1, b2, b3, b4, b5⟩ := hat
  refine ⟨fun hk => ?_, fun hk => ?_, fun hk => ?_, fun hk => ?_, fun hk hk2 => ?_⟩
  · exact ((b1 hk).kept hH).to (fun k _ => by rw [hf])
  · rw [hH, h1]; exact b2 hk
  · rw [hH, h1]; exact b3 hk
  · rw [hH, h2]; exact b4 hk
  · rw [hH, h3]; exact b5 hk hk2
/-- a table of ids is sound: the places of valid ids are apart; every place has its id -/
def xm_Eok (E : xm_E) : Prop := (∀ a, (E.1 a).1 < 200 → (E.1 a).1 ≠ 110 → E.2.2 (E.2.1 a) = a) ∧ ∀ k, E.2.1 (E.2.2 k) = k
def xm_w (D : va_G) (cA : Nat → ClassId) (s0 : State) (b n : Nat) (xs : Nat → Int32) (E : xm_E) (h : xm_H) (H : Heap) : Prop :=
  H.size = s0.heap.size + h.1.1 ∧ (∀ q, q < s0.heap.size → H[q]? = s0.heap[q]?) ∧ (∀ a, E.2.1 a < h.1.1 → xm_at D cA E (xm_a E s0.heap.size b) h H a) ∧
  (∀ a, (E.1 a).1 ≠ 110 → h.1.1 ≤ E.2.1 a → ∀ k, h.2.1 a k = 0 ∧ h.2.2.1 a k = 0 ∧ h.2.2.2 a k = none) ∧
  (∀ a, (E.1 a).1 = 110 → (E.1 a).2 = n ∧ ∀ j, j < n → h.2.1 a j = xs j)
section XW
variable {D : va_G} {cA : Nat → ClassId} {s0 : State} {b n : Nat} {xs : Nat → Int32} {E : xm_E} {h h' : xm_H} {H H' : Heap} {a : xm_I}
theorem xm_nc : tb_nc ≤ 60 := by decide
theorem xm_a_ne {a a' : xm_I} {z : Nat} (hE : xm_Eok E) (hb : b < z) (h1 : (E.1 a).1 < 200) (h2 : (E.1 a).1 ≠ 110) (h3 : (E.1 a').1 < 200) (hne : a' ≠ a) : xm_a E z b a' ≠ xm_a E z b a := by
  unfold xm_a
  rw [if_neg h2]
  by_cases h4 : (E.1 a').1 = 110
  · rw [if_pos h4]; omega
  · rw [if_neg h4]
    intro q
    have e : E.2.1 a' = E.2.1 a := by omega
    exact hne (by rw [← hE.1 a' h3 h4, ← hE.1 a h1 h2, e])
theorem xm_at_no (h200 : ¬ (E.1 a).1 < 200) {L : xm_I → Nat} : xm_at D cA E L h H a := by
  have := xm_nc
  exact ⟨fun q => by omega, fun q => by omega, fun q => by omega, fun q => by omega, fun _ q => by omega⟩
/-- one cell has changed -/
theorem xm_w_set (hE : xm_Eok E) (hb : b < s0.heap.size) (hw : xm_w D cA s0 b n xs E h H) (ha : E.2.1 a < h.1.1) (h1 : (E.1 a).1 < 200) (h2 : (E.1 a).1 ≠ 110)
    (hsz : H'.size = H.size) (ho : ∀ q, q ≠ xm_a E s0.heap.size b a → H'[q]? = H[q]?) (hc : h'.1 = h.1) (hf : ∀ a', a' ≠ a → h'.2.1 a' = h.2.1 a' ∧ h'.2.2.1 a' = h.2.2.1 a' ∧ h'.2.2.2 a' = h.2.2.2 a')
    (hat : xm_at D cA E (xm_a E s0.heap.size b) h' H' a) : xm_w D cA s0 b n xs E h' H' := by
  obtain ⟨w1, w2, w3, w4, w5⟩ := hw
  have hL : xm_a E s0.heap.size b a = s0.heap.size + E.2.1 a := by unfold xm_a; rw [if_neg h2]
  refine ⟨by rw [hsz, hc]; exact w1, fun q hq => by rw [ho q (by rw [hL]; omega)]; exact w2 q hq, fun a' ha' => ?_, fun a' h110 ha' k => ?_, fun a' h110 => ?_⟩
  · by_cases e : a' = a
    · subst e; exact hat
    · by_cases h200 : (E.1 a').1 < 200
      · obtain ⟨f1, f2, f3⟩ := hf a' e
        exact xm_at_eq (ho _ (xm_a_ne hE hb h1 h2 h200 e)) f1 f2 f3 (w3 a' (by rw [hc] at ha'; exact ha'))
      · exact xm_at_no h200
  · have e : a' ≠ a := fun e => by subst e; rw [hc] at ha'; omega
    obtain ⟨f1, f2, f3⟩ := hf a' e
    rw [f1, f2, f3]
    exact w4 a' h110 (by rw [hc] at ha'; exact ha') k
  · have e : a' ≠ a := fun e => by subst e; exact h2 h110
    obtain ⟨f1, -, -⟩ := hf a' e
    rw [f1]
    exact w5 a' h110
/-- a cell has come -/
theorem xm_w_new {k : Nat} (hE : xm_Eok E) (hb : b < s0.heap.size) (hw : xm_w D cA s0 b n xs E h H) (hsz : H'.size = H.size + 1) (ho : ∀ q, q < H.size → H'[q]? = H[q]?)
    (hat : (E.1 (E.2.2 h.1.1)).1 < 200 → (E.1 (E.2.2 h.1.1)).1 ≠ 110 → xm_at D cA E (xm_a E s0.heap.size b) (xm_new h k) H' (E.2.2 h.1.1)) : xm_w D cA s0 b n xs E (xm_new h k) H' := by
  obtain ⟨w1, w2, w3, w4, w5⟩ := hw
  refine ⟨by rw [hsz, w1]; show _ = s0.heap.size + (h.1.1 + 1); omega, fun q hq => by rw [ho q (by omega)]; exact w2 q hq, fun a' ha' => ?_, fun a' h110 ha' => w4 a' h110 (Nat.le_of_succ_le ha'), w5⟩
  have ha2 : E.2.1 a' < h.1.1 + 1 := ha'
  by_cases h200 : (E.1 a').1 < 200
  · by_cases h110 : (E.1 a').1 = 110
    · have := xm_nc
      exact ⟨fun q => by omega, fun q => by omega, fun q => by omega, fun q => by omega, fun q => by omega⟩
    · by_cases e : E.2.1 a' = h.1.1
      · have e2 : a' = E.2.2 h.1.1 := by rw [← e]; exact (hE.1 a' h200 h110).symm
        rw [e2] at h200 h110 ⊢
        exact hat h200 h110
      · refine xm_at_eq (ho _ ?_) rfl rfl rfl (w3 a' (by omega))
        unfold xm_a
        rw [if_neg h110, w1]
        omega
  · exact xm_at_no h200
end XW
