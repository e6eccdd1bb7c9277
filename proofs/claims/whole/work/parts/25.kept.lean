/-! What a piece of the program leaves as it was, by the number of the cell; small numbers; loops with an invariant. -/
abbrev FI : Type := xm_I → Nat → Int32
abbrev FL : Type := xm_I → Nat → Int64
def kp_c (a : xm_I) (k : Nat) : Nat := match a.1 with
  | 0 => k
  | 1 => 100 + k
  | 2 => 200 + k
  | 7 => 700 + k
  | 20 => 2000 + k
  | 21 => 2100 + a.2.1
  | t => 100 * t
def kp (L : List Nat) (f g : FI) : Prop := ∀ a k, L.contains (kp_c a k) = false → g a k = f a k
theorem kp_re (L : List Nat) (f : FI) : kp L f f := fun _ _ _ => rfl
theorem kp_up {L : List Nat} {f g : FI} {a : xm_I} {k : Nat} {v : Int32} (h : kp L f g) (e : L.contains (kp_c a k) = true) : kp L f (xm_up g a k v) := by
  intro b j hb
  unfold xm_up
  rw [if_neg (fun z => by rw [z.1, z.2, e] at hb; cases hb)]
  exact h b j hb
theorem kp_sub {L L' : List Nat} {f g : FI} (h : kp L' f g) (e : L'.all (fun x => L.contains x) = true) : kp L f g := by
  intro a k hc
  refine h a k ?_
  rw [← Bool.not_eq_true]
  intro h2
  rw [List.contains_iff_mem] at h2
  have := List.all_eq_true.mp e _ h2
  rw [this] at hc
  cases hc
theorem kp_tr {L L' : List Nat} {f g g' : FI} (h : kp L f g) (e : L'.all (fun x => L.contains x) = true) (h' : kp L' g g') : kp L f g' := by
  intro a k hc
  rw [kp_sub h' e a k hc]
  exact h a k hc
theorem kp_it {L : List Nat} {S : Type} {p : S → FI} {f : FI} {N : Nat} {F : Nat → S → S} {s0 : S} (h : kp L f (p s0)) (hF : ∀ i s, kp L (p s) (p (F i s))) : kp L f (p (lq_it N F s0)) := by
  induction N with
  | zero => exact h
  | succ N ih =>
    intro a k hc
    show p (F N (lq_it N F s0)) a k = _
    rw [hF N _ a k hc]
    exact ih a k hc
theorem kp_at {L : List Nat} {f g : FI} (h : kp L f g) (a : xm_I) (k : Nat) (e : L.contains (kp_c a k) = false) {v : Int32} (hv : f a k = v) : g a k = v := (h a k e).trans hv
def fz (n : Nat) (f : FI) : Prop := (∀ i, i < n → f (7, i, 0) 0 = nI i ∧ f (7, i, 0) 1 = nI n) ∧ f (20, 0, 0) 1 = nI n
theorem fz_kp {n : Nat} {L : List Nat} {f g : FI} (h : fz n f) (k : kp L f g) (e : L.contains 700 = false) (e1 : L.contains 701 = false) (e2 : L.contains 2001 = false) : fz n g :=
  ⟨fun i hi => ⟨(k (7, i, 0) 0 e).trans (h.1 i hi).1, (k (7, i, 0) 1 e1).trans (h.1 i hi).2⟩, (k (20, 0, 0) 1 e2).trans h.2⟩
def bI (b : Bool) : Int32 := if b = true then 1 else 0
theorem bI_01 (b : Bool) : bI b = 0 ∨ bI b = 1 := by cases b <;> decide
theorem nx_c {a : Nat} : nI a = nI a := rfl
theorem nx_add {x y : Int32} {a b : Nat} (hx : x = nI a) (hy : y = nI b) : x + y = nI (a + b) := by rw [hx, hy, nI_add]
theorem nx_mul {x y : Int32} {a b : Nat} (hx : x = nI a) (hy : y = nI b) : x * y = nI (a * b) := by rw [hx, hy]; exact (Int32.ofNat_mul a b).symm
theorem nx_nle {x y : Int32} {a b : Nat} (hx : x = nI a) (hy : y = nI b) (h : a < b) (h9 : b < 100000) : ¬ y ≤ x := by rw [hx, hy]; exact nI_ge h (by omega)
theorem nx_le {x y : Int32} {a b : Nat} (hx : x = nI a) (hy : y = nI b) (h : b ≤ a) (h9 : a < 100000) : y ≤ x := by rw [hx, hy]; exact nI_le h (by omega)
theorem nx_lt {x y : Int32} {a b : Nat} (hx : x = nI a) (hy : y = nI b) (h : a < b) (h9 : b < 100000) : x < y := by rw [hx, hy]; exact nI_lt h (by omega)
theorem nx_nlt {x y : Int32} {a b : Nat} (hx : x = nI a) (hy : y = nI b) (h : b ≤ a) (h9 : a < 100000) : ¬ x < y := by rw [hx, hy]; exact nI_nlt h (by omega)
theorem nx_dec {a b e : Nat} {x y : Int32} (hx : x = nI a) (hy : y + nI e = 0) (h : b + e = a) : x + y = nI b := by
  rw [hx, ← h, ← nI_add, Int32.add_assoc, Int32.add_comm (nI e) y, hy, Int32.add_zero]
theorem go_top {E : xm_E} {d : Nat} {md : Bool} {j pc : Nat} {lv : xm_L} {st : List xm_V} {h : xm_H} {R : xm_O} {x y : Int32} (e : x = y) (k : xm_G E d md j pc lv (xm_i y :: st) h R) : xm_G E d md j pc lv (xm_i x :: st) h R := e ▸ k
theorem lq_li {S : Type} {P I : Nat → S → Prop} {N : Nat} {f : Nat → S → S} {s0 : S} (h0 : I 0 s0) (hI : ∀ i s, i < N → I i s → I (i + 1) (f i s)) (step : ∀ i s, i < N → I i s → (∀ s', f i s = s' → P (i + 1) s') → P i s) (done : I N (lq_it N f s0) → P N (lq_it N f s0)) : P 0 s0 := by
  have inv : ∀ m, m ≤ N → I m (lq_it m f s0) := by
    intro m
    induction m with
    | zero => exact fun _ => h0
    | succ m ih => exact fun hm => hI m _ (by omega) (ih (by omega))
  have key : ∀ m, m ≤ N → P m (lq_it m f s0) → P 0 s0 := by
    intro m
    induction m with
    | zero => exact fun _ h => h
    | succ m ih => exact fun hm h => ih (by omega) (step m _ (by omega) (inv m (by omega)) (fun s' e => e ▸ h))
  exact key N (Nat.le_refl N) (done (inv N (Nat.le_refl N)))
theorem up_same {α : Type} (f : xm_I → Nat → α) (a : xm_I) (k : Nat) : xm_up f a k (f a k) = f := by
  funext b j
  unfold xm_up
  split
  · next h => rw [h.1, h.2]
  · rfl
theorem up_eq {α : Type} (f : xm_I → Nat → α) (a : xm_I) (k : Nat) (v : α) : xm_up f a k v a k = v := if_pos ⟨rfl, rfl⟩
theorem up_ne {α : Type} (f : xm_I → Nat → α) {a b : xm_I} {k j : Nat} (v : α) (h : ¬ (b = a ∧ j = k)) : xm_up f a k v b j = f b j := if_neg h
theorem kp_if {L : List Nat} {f a b : FI} {p : Prop} [Decidable p] (ha : kp L f a) (hb : kp L f b) : kp L f (if p then a else b) := by
  split
  · exact ha
  · exact hb
theorem nx_half {m : Nat} (h0 : ¬ nI m = 0) (h9 : m < 1000) : (nI m - 1) / 2 = nI ((m - 1) / 2) := by
  have h := (by decide +kernel : ∀ m, m < 1000 → (decide (nI m = 0) || decide ((nI m - 1) / 2 = nI ((m - 1) / 2))) = true) m h9
  rw [decide_eq_false h0, Bool.false_or, decide_eq_true_eq] at h
  exact h
