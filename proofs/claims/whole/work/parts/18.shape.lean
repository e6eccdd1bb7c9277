/-! The shape of the heap: ids, kinds, references; loops. Written by wip/whole/prog/gen_shape.py. -/
abbrev go_ok (E : xm_E) (c : Nat × Nat) (a : xm_I) (t s : Nat) : Prop := E.1 a = (t, s) ∧ E.2.1 a < c.1
abbrev go_oks (E : xm_E) (c : Nat × Nat) (a : xm_I) (s : Nat) : Prop := go_ok E c a 100 s ∨ E.1 a = (110, s)
abbrev go_okl (E : xm_E) (c : Nat × Nat) (a : xm_I) (t s : Nat) : Prop := E.1 a = (110, s) ∨ (go_ok E c a t s ∧ (t = 100 ∨ t = 101 ∨ t = 102 ∨ xm_kr t))
section GK
variable {E : xm_E} {h : xm_H} {c : Nat × Nat} {a : xm_I} {t s : Nat}
theorem go_ok1 (k : go_ok E h.1 a t s) : xm_ok E h a t := ⟨by rw [k.1], k.2⟩
theorem go_ok2 (k : go_ok E c a t s) : (E.1 a).2 = s := by rw [k.1]
theorem go_oks1 (k : go_oks E h.1 a s) : xm_ok E h a 100 ∨ (E.1 a).1 = 110 := k.elim (fun k => Or.inl (go_ok1 k)) (fun k => Or.inr (by rw [k]))
theorem go_oks2 (k : go_oks E c a s) : (E.1 a).2 = s := k.elim (fun k => by rw [k.1]) (fun k => by rw [k])
theorem go_okl1 (k : go_okl E h.1 a t s) : (E.1 a).1 = 110 ∨ (E.2.1 a < h.1.1 ∧ ((E.1 a).1 = 100 ∨ (E.1 a).1 = 101 ∨ (E.1 a).1 = 102 ∨ xm_kr (E.1 a).1)) := k.elim (fun k => Or.inl (by rw [k])) (fun k => Or.inr ⟨k.1.2, by rw [k.1.1]; exact k.2⟩)
theorem go_okl2 (k : go_okl E c a t s) : (E.1 a).2 = s := k.elim (fun k => by rw [k]) (fun k => by rw [k.1.1])
end GK
def lq_it {S : Type} : Nat → (Nat → S → S) → S → S
  | 0, _, s => s
  | n + 1, f, s => f n (lq_it n f s)
theorem lq_loop {S : Type} {P : Nat → S → Prop} {N : Nat} {f : Nat → S → S} {s0 : S} (step : ∀ i s, i < N → (∀ s', f i s = s' → P (i + 1) s') → P i s) (done : P N (lq_it N f s0)) : P 0 s0 := by
  have key : ∀ m, m ≤ N → P m (lq_it m f s0) → P 0 s0 := by
    intro m
    induction m with
    | zero => exact fun _ h => h
    | succ m ih => exact fun hm h => ih (by omega) (step m _ (by omega) (fun s' e => e ▸ h))
  exact key N (Nat.le_refl N) done
theorem lq_loopi {S : Type} {P I : Nat → S → Prop} {N : Nat} {f : Nat → S → S} {s0 : S} (h0 : I 0 s0) (hI : ∀ i s, i < N → I i s → I (i + 1) (f i s)) (step : ∀ i s, i < N → I i s → (∀ s', f i s = s' → P (i + 1) s') → P i s) (done : P N (lq_it N f s0)) : P 0 s0 := by
  have inv : ∀ m, m ≤ N → I m (lq_it m f s0) := by
    intro m
    induction m with
    | zero => exact fun _ => h0
    | succ m ih => exact fun hm => hI m _ (by omega) (ih (by omega))
  have key : ∀ m, m ≤ N → P m (lq_it m f s0) → P 0 s0 := by
    intro m
    induction m with
    | zero => exact fun _ h => h
    | succ m ih => exact fun hm h => ih (by omega) (step m _ (by omega) (inv m (by omega)) (fun s' e => e ▸ h))
  exact key N (Nat.le_refl N) done
/-- a loop that may be left early: the outcome goes by the place -/
theorem lq_early {P : Nat → Prop} {N : Nat} (step : ∀ i, i < N → P (i + 1) → P i) (done : P N) : P 0 := by
  have key : ∀ m, m ≤ N → P m → P 0 := by
    intro m
    induction m with
    | zero => exact fun _ h => h
    | succ m ih => exact fun hm h => ih (by omega) (step m (by omega) h)
  exact key N (Nat.le_refl N) done
theorem go_eq {E : xm_E} {d : Nat} {md : Bool} {j pc : Nat} {lv : xm_L} {st : List xm_V} {h : xm_H} {R R' : xm_O} (e : R' = R) (k : xm_G E d md j pc lv st h R) : xm_G E d md j pc lv st h R' := e ▸ k
abbrev sh_cq (n i k : Nat) : Prop := (i < n ∧ k < 6 + n) ∨ (i = 6 ∧ k = 0)
def sh_ln (n i : Nat) : List (xm_I × Nat × Nat) := [((7, i, 0), 3, 0), ((8, i, 0), 100, 4), ((9, i, 0), 4, 0), ((10, i, 0), 100, n), ((11, i, 0), 124, n)] ++ (List.range n).flatMap (fun k => [((9, i, 6 + k), 4, 0), ((10, i, 6 + k), 100, n)]) ++ [((12, i, 0), 124, 4)] ++ (List.range 4).flatMap (fun p => [((9, i, 2 + p), 4, 0), ((10, i, 2 + p), 100, n)]) ++ [((9, i, 1), 4, 0), ((10, i, 1), 100, n), ((13, i, 0), 100, n)]
def sh_lm : List (xm_I × Nat × Nat) := [((20, 0, 0), 5, 0), ((21, 8, 0), 100, 6), ((21, 9, 0), 100, 6), ((21, 10, 0), 101, 6), ((21, 11, 0), 102, 6), ((21, 12, 0), 100, 6), ((21, 13, 0), 100, 6), ((21, 14, 0), 102, 36), ((21, 15, 0), 100, 36), ((21, 16, 0), 102, 36), ((21, 17, 0), 100, 36), ((21, 18, 0), 102, 6), ((21, 19, 0), 102, 6), ((21, 20, 0), 100, 6), ((21, 24, 0), 100, 7), ((21, 27, 0), 102, 36), ((21, 28, 0), 100, 36), ((21, 29, 0), 102, 216), ((21, 30, 0), 100, 216), ((21, 31, 0), 102, 6), ((21, 32, 0), 100, 6), ((21, 33, 0), 100, 24), ((21, 34, 0), 102, 144), ((21, 35, 0), 100, 144), ((21, 37, 0), 102, 6), ((21, 38, 0), 100, 6)]
def sh_l (n : Nat) : List (xm_I × Nat × Nat) := [((0, 0, 0), 0, 0), ((1, 0, 0), 1, 0), ((2, 0, 0), 2, 0), ((3, 0, 0), 100, n), ((4, 0, 0), 101, n), ((5, 0, 0), 100, n + 1), ((6, 0, 0), 123, n)] ++ (List.range n).flatMap (sh_ln n) ++ [((9, 6, 0), 4, 0), ((10, 6, 0), 100, n)] ++ sh_lm ++ [((30, 0, 0), 101, 1)]
def sh_rn (n i : Nat) : List (xm_I × Nat × xm_I) := [((6, 0, 0), i, (7, i, 0)), ((7, i, 0), 4, (8, i, 0)), ((7, i, 0), 5, (9, i, 0)), ((7, i, 0), 6, (11, i, 0)), ((7, i, 0), 7, (12, i, 0)), ((7, i, 0), 8, (9, i, 1)), ((7, i, 0), 9, (13, i, 0))] ++ (List.range n).map (fun k => ((11, i, 0), k, (9, i, 6 + k))) ++ (List.range 4).map (fun p => ((12, i, 0), p, (9, i, 2 + p))) ++ (List.range (6 + n)).map (fun k => ((9, i, k), 0, (10, i, k)))
def sh_r (n : Nat) : List (xm_I × Nat × xm_I) := [((0, 0, 0), 0, (1, 0, 0)), ((0, 0, 0), 1, (2, 0, 0)), ((0, 0, 0), 2, (6, 0, 0)), ((0, 0, 0), 3, (9, 6, 0)), ((2, 0, 0), 0, (3, 0, 0)), ((2, 0, 0), 1, (4, 0, 0)), ((2, 0, 0), 2, (5, 0, 0)), ((9, 6, 0), 0, (10, 6, 0))] ++ (List.range n).flatMap (sh_rn n) ++ [((20, 0, 0), 8, (21, 8, 0)), ((20, 0, 0), 9, (21, 9, 0)), ((20, 0, 0), 10, (21, 10, 0)), ((20, 0, 0), 11, (21, 11, 0)), ((20, 0, 0), 12, (21, 12, 0)), ((20, 0, 0), 13, (21, 13, 0)), ((20, 0, 0), 14, (21, 14, 0)), ((20, 0, 0), 15, (21, 15, 0)), ((20, 0, 0), 16, (21, 16, 0)), ((20, 0, 0), 17, (21, 17, 0)), ((20, 0, 0), 18, (21, 18, 0)), ((20, 0, 0), 19, (21, 19, 0)), ((20, 0, 0), 20, (21, 20, 0)), ((20, 0, 0), 24, (21, 24, 0)), ((20, 0, 0), 27, (21, 27, 0)), ((20, 0, 0), 28, (21, 28, 0)), ((20, 0, 0), 29, (21, 29, 0)), ((20, 0, 0), 30, (21, 30, 0)), ((20, 0, 0), 31, (21, 31, 0)), ((20, 0, 0), 32, (21, 32, 0)), ((20, 0, 0), 33, (21, 33, 0)), ((20, 0, 0), 34, (21, 34, 0)), ((20, 0, 0), 35, (21, 35, 0)), ((20, 0, 0), 37, (21, 37, 0)), ((20, 0, 0), 38, (21, 38, 0))]
def sh (n : Nat) (E : xm_E) (c : Nat × Nat) (r : xm_I → Nat → Option xm_I) : Prop := (4 ≤ n ∧ n ≤ 6) ∧ (∀ q ∈ sh_l n, go_ok E c q.1 q.2.1 q.2.2) ∧ (∀ q ∈ sh_r n, r q.1 q.2.1 = some q.2.2)
def sh_b (n : Nat) (a : xm_I) (t s : Nat) : Bool := (sh_l n).contains (a, t, s)
def sh_rb (n : Nat) (a : xm_I) (f : Nat) (b : xm_I) : Bool := (sh_r n).contains (a, f, b)
theorem sh_bm {n : Nat} {a : xm_I} {t s : Nat} (h : sh_b n a t s = true) : (a, t, s) ∈ sh_l n := by
  unfold sh_b at h
  exact List.contains_iff_mem.mp h
theorem sh_rbm {n : Nat} {a b : xm_I} {f : Nat} (h : sh_rb n a f b = true) : (a, f, b) ∈ sh_r n := by
  unfold sh_rb at h
  exact List.contains_iff_mem.mp h
theorem sh_imp {p : Prop} [Decidable p] {b : Bool} (h : (!(decide p) || b) = true) (hp : p) : b = true := by
  rw [decide_eq_true hp] at h
  exact h
section SH
variable {n : Nat} {E : xm_E} {c : Nat × Nat} {r : xm_I → Nat → Option xm_I}
theorem sh_n (hs : sh n E c r) : 4 ≤ n ∧ n ≤ 6 := hs.1
theorem sh_m0 : ∀ n, n < 7 → 4 ≤ n → (sh_b n (0, 0, 0) 0 (0)) = true := by decide +kernel
theorem sk0 (hs : sh n E c r) : go_ok E c (0, 0, 0) 0 0 := hs.2.1 _ (sh_bm (sh_m0 n (by have := hs.1; omega) hs.1.1 ))
theorem sh_m1 : ∀ n, n < 7 → 4 ≤ n → (sh_b n (1, 0, 0) 1 (0)) = true := by decide +kernel
theorem sk1 (hs : sh n E c r) : go_ok E c (1, 0, 0) 1 0 := hs.2.1 _ (sh_bm (sh_m1 n (by have := hs.1; omega) hs.1.1 ))
theorem sh_m2 : ∀ n, n < 7 → 4 ≤ n → (sh_b n (2, 0, 0) 2 (0)) = true := by decide +kernel
theorem sk2 (hs : sh n E c r) : go_ok E c (2, 0, 0) 2 0 := hs.2.1 _ (sh_bm (sh_m2 n (by have := hs.1; omega) hs.1.1 ))
theorem sh_m3 : ∀ n, n < 7 → 4 ≤ n → (sh_b n (3, 0, 0) 100 (n)) = true := by decide +kernel
theorem sk3 (hs : sh n E c r) : go_ok E c (3, 0, 0) 100 n := hs.2.1 _ (sh_bm (sh_m3 n (by have := hs.1; omega) hs.1.1 ))
theorem sh_m4 : ∀ n, n < 7 → 4 ≤ n → (sh_b n (4, 0, 0) 101 (n)) = true := by decide +kernel
theorem sk4 (hs : sh n E c r) : go_ok E c (4, 0, 0) 101 n := hs.2.1 _ (sh_bm (sh_m4 n (by have := hs.1; omega) hs.1.1 ))
theorem sh_m5 : ∀ n, n < 7 → 4 ≤ n → (sh_b n (5, 0, 0) 100 (n + 1)) = true := by decide +kernel
theorem sk5 (hs : sh n E c r) : go_ok E c (5, 0, 0) 100 (n + 1) := hs.2.1 _ (sh_bm (sh_m5 n (by have := hs.1; omega) hs.1.1 ))
theorem sh_m6 : ∀ n, n < 7 → 4 ≤ n → (sh_b n (6, 0, 0) 123 (n)) = true := by decide +kernel
theorem sk6 (hs : sh n E c r) : go_ok E c (6, 0, 0) 123 n := hs.2.1 _ (sh_bm (sh_m6 n (by have := hs.1; omega) hs.1.1 ))
theorem sh_m7 : ∀ n, n < 7 → 4 ≤ n → ∀ i, i < n → (sh_b n (7, i, 0) 3 (0)) = true := by decide +kernel
theorem sk7 (hs : sh n E c r) {i : Nat} (hi : i < n) : go_ok E c (7, i, 0) 3 0 := hs.2.1 _ (sh_bm (sh_m7 n (by have := hs.1; omega) hs.1.1 i hi))
theorem sh_m8 : ∀ n, n < 7 → 4 ≤ n → ∀ i, i < n → (sh_b n (8, i, 0) 100 (4)) = true := by decide +kernel
theorem sk8 (hs : sh n E c r) {i : Nat} (hi : i < n) : go_ok E c (8, i, 0) 100 4 := hs.2.1 _ (sh_bm (sh_m8 n (by have := hs.1; omega) hs.1.1 i hi))
theorem sh_m9 : ∀ n, n < 7 → 4 ≤ n → ∀ i, i < 7 → ∀ k, k < 12 → (!(decide (sh_cq n i k)) || sh_b n (9, i, k) 4 (0)) = true := by decide +kernel
theorem sk9 (hs : sh n E c r) {i : Nat} {k : Nat} (hq : sh_cq n i k) : go_ok E c (9, i, k) 4 0 := hs.2.1 _ (sh_bm (sh_imp (sh_m9 n (by have := hs.1; omega) hs.1.1 i (by have := hs.1; unfold sh_cq at hq; omega) k (by have := hs.1; unfold sh_cq at hq; omega)) hq))
theorem sh_m10 : ∀ n, n < 7 → 4 ≤ n → ∀ i, i < 7 → ∀ k, k < 12 → (!(decide (sh_cq n i k)) || sh_b n (10, i, k) 100 (n)) = true := by decide +kernel
theorem sk10 (hs : sh n E c r) {i : Nat} {k : Nat} (hq : sh_cq n i k) : go_ok E c (10, i, k) 100 n := hs.2.1 _ (sh_bm (sh_imp (sh_m10 n (by have := hs.1; omega) hs.1.1 i (by have := hs.1; unfold sh_cq at hq; omega) k (by have := hs.1; unfold sh_cq at hq; omega)) hq))
theorem sh_m11 : ∀ n, n < 7 → 4 ≤ n → ∀ i, i < n → (sh_b n (11, i, 0) 124 (n)) = true := by decide +kernel
theorem sk11 (hs : sh n E c r) {i : Nat} (hi : i < n) : go_ok E c (11, i, 0) 124 n := hs.2.1 _ (sh_bm (sh_m11 n (by have := hs.1; omega) hs.1.1 i hi))
theorem sh_m12 : ∀ n, n < 7 → 4 ≤ n → ∀ i, i < n → (sh_b n (12, i, 0) 124 (4)) = true := by decide +kernel
theorem sk12 (hs : sh n E c r) {i : Nat} (hi : i < n) : go_ok E c (12, i, 0) 124 4 := hs.2.1 _ (sh_bm (sh_m12 n (by have := hs.1; omega) hs.1.1 i hi))
theorem sh_m13 : ∀ n, n < 7 → 4 ≤ n → ∀ i, i < n → (sh_b n (13, i, 0) 100 (n)) = true := by decide +kernel
theorem sk13 (hs : sh n E c r) {i : Nat} (hi : i < n) : go_ok E c (13, i, 0) 100 n := hs.2.1 _ (sh_bm (sh_m13 n (by have := hs.1; omega) hs.1.1 i hi))
theorem sh_m20 : ∀ n, n < 7 → 4 ≤ n → (sh_b n (20, 0, 0) 5 (0)) = true := by decide +kernel
theorem sk20 (hs : sh n E c r) : go_ok E c (20, 0, 0) 5 0 := hs.2.1 _ (sh_bm (sh_m20 n (by have := hs.1; omega) hs.1.1 ))
theorem sh_m30 : ∀ n, n < 7 → 4 ≤ n → (sh_b n (30, 0, 0) 101 (1)) = true := by decide +kernel
theorem sk30 (hs : sh n E c r) : go_ok E c (30, 0, 0) 101 1 := hs.2.1 _ (sh_bm (sh_m30 n (by have := hs.1; omega) hs.1.1 ))
theorem sh_m21_8 : ∀ n, n < 7 → 4 ≤ n → (sh_b n (21, 8, 0) 100 (6)) = true := by decide +kernel
theorem sk21_8 (hs : sh n E c r) : go_ok E c (21, 8, 0) 100 6 := hs.2.1 _ (sh_bm (sh_m21_8 n (by have := hs.1; omega) hs.1.1 ))
theorem sh_m21_9 : ∀ n, n < 7 → 4 ≤ n → (sh_b n (21, 9, 0) 100 (6)) = true := by decide +kernel
theorem sk21_9 (hs : sh n E c r) : go_ok E c (21, 9, 0) 100 6 := hs.2.1 _ (sh_bm (sh_m21_9 n (by have := hs.1; omega) hs.1.1 ))
theorem sh_m21_10 : ∀ n, n < 7 → 4 ≤ n → (sh_b n (21, 10, 0) 101 (6)) = true := by decide +kernel
theorem sk21_10 (hs : sh n E c r) : go_ok E c (21, 10, 0) 101 6 := hs.2.1 _ (sh_bm (sh_m21_10 n (by have := hs.1; omega) hs.1.1 ))
theorem sh_m21_11 : ∀ n, n < 7 → 4 ≤ n → (sh_b n (21, 11, 0) 102 (6)) = true := by decide +kernel
theorem sk21_11 (hs : sh n E c r) : go_ok E c (21, 11, 0) 102 6 := hs.2.1 _ (sh_bm (sh_m21_11 n (by have := hs.1; omega) hs.1.1 ))
theorem sh_m21_12 : ∀ n, n < 7 → 4 ≤ n → (sh_b n (21, 12, 0) 100 (6)) = true := by decide +kernel
theorem sk21_12 (hs : sh n E c r) : go_ok E c (21, 12, 0) 100 6 := hs.2.1 _ (sh_bm (sh_m21_12 n (by have := hs.1; omega) hs.1.1 ))
theorem sh_m21_13 : ∀ n, n < 7 → 4 ≤ n → (sh_b n (21, 13, 0) 100 (6)) = true := by decide +kernel
theorem sk21_13 (hs : sh n E c r) : go_ok E c (21, 13, 0) 100 6 := hs.2.1 _ (sh_bm (sh_m21_13 n (by have := hs.1; omega) hs.1.1 ))
theorem sh_m21_14 : ∀ n, n < 7 → 4 ≤ n → (sh_b n (21, 14, 0) 102 (36)) = true := by decide +kernel
theorem sk21_14 (hs : sh n E c r) : go_ok E c (21, 14, 0) 102 36 := hs.2.1 _ (sh_bm (sh_m21_14 n (by have := hs.1; omega) hs.1.1 ))
theorem sh_m21_15 : ∀ n, n < 7 → 4 ≤ n → (sh_b n (21, 15, 0) 100 (36)) = true := by decide +kernel
theorem sk21_15 (hs : sh n E c r) : go_ok E c (21, 15, 0) 100 36 := hs.2.1 _ (sh_bm (sh_m21_15 n (by have := hs.1; omega) hs.1.1 ))
theorem sh_m21_16 : ∀ n, n < 7 → 4 ≤ n → (sh_b n (21, 16, 0) 102 (36)) = true := by decide +kernel
theorem sk21_16 (hs : sh n E c r) : go_ok E c (21, 16, 0) 102 36 := hs.2.1 _ (sh_bm (sh_m21_16 n (by have := hs.1; omega) hs.1.1 ))
theorem sh_m21_17 : ∀ n, n < 7 → 4 ≤ n → (sh_b n (21, 17, 0) 100 (36)) = true := by decide +kernel
theorem sk21_17 (hs : sh n E c r) : go_ok E c (21, 17, 0) 100 36 := hs.2.1 _ (sh_bm (sh_m21_17 n (by have := hs.1; omega) hs.1.1 ))
theorem sh_m21_18 : ∀ n, n < 7 → 4 ≤ n → (sh_b n (21, 18, 0) 102 (6)) = true := by decide +kernel
theorem sk21_18 (hs : sh n E c r) : go_ok E c (21, 18, 0) 102 6 := hs.2.1 _ (sh_bm (sh_m21_18 n (by have := hs.1; omega) hs.1.1 ))
theorem sh_m21_19 : ∀ n, n < 7 → 4 ≤ n → (sh_b n (21, 19, 0) 102 (6)) = true := by decide +kernel
theorem sk21_19 (hs : sh n E c r) : go_ok E c (21, 19, 0) 102 6 := hs.2.1 _ (sh_bm (sh_m21_19 n (by have := hs.1; omega) hs.1.1 ))
theorem sh_m21_20 : ∀ n, n < 7 → 4 ≤ n → (sh_b n (21, 20, 0) 100 (6)) = true := by decide +kernel
theorem sk21_20 (hs : sh n E c r) : go_ok E c (21, 20, 0) 100 6 := hs.2.1 _ (sh_bm (sh_m21_20 n (by have := hs.1; omega) hs.1.1 ))
theorem sh_m21_24 : ∀ n, n < 7 → 4 ≤ n → (sh_b n (21, 24, 0) 100 (7)) = true := by decide +kernel
theorem sk21_24 (hs : sh n E c r) : go_ok E c (21, 24, 0) 100 7 := hs.2.1 _ (sh_bm (sh_m21_24 n (by have := hs.1; omega) hs.1.1 ))
theorem sh_m21_27 : ∀ n, n < 7 → 4 ≤ n → (sh_b n (21, 27, 0) 102 (36)) = true := by decide +kernel
theorem sk21_27 (hs : sh n E c r) : go_ok E c (21, 27, 0) 102 36 := hs.2.1 _ (sh_bm (sh_m21_27 n (by have := hs.1; omega) hs.1.1 ))
theorem sh_m21_28 : ∀ n, n < 7 → 4 ≤ n → (sh_b n (21, 28, 0) 100 (36)) = true := by decide +kernel
theorem sk21_28 (hs : sh n E c r) : go_ok E c (21, 28, 0) 100 36 := hs.2.1 _ (sh_bm (sh_m21_28 n (by have := hs.1; omega) hs.1.1 ))
theorem sh_m21_29 : ∀ n, n < 7 → 4 ≤ n → (sh_b n (21, 29, 0) 102 (216)) = true := by decide +kernel
theorem sk21_29 (hs : sh n E c r) : go_ok E c (21, 29, 0) 102 216 := hs.2.1 _ (sh_bm (sh_m21_29 n (by have := hs.1; omega) hs.1.1 ))
theorem sh_m21_30 : ∀ n, n < 7 → 4 ≤ n → (sh_b n (21, 30, 0) 100 (216)) = true := by decide +kernel
theorem sk21_30 (hs : sh n E c r) : go_ok E c (21, 30, 0) 100 216 := hs.2.1 _ (sh_bm (sh_m21_30 n (by have := hs.1; omega) hs.1.1 ))
theorem sh_m21_31 : ∀ n, n < 7 → 4 ≤ n → (sh_b n (21, 31, 0) 102 (6)) = true := by decide +kernel
theorem sk21_31 (hs : sh n E c r) : go_ok E c (21, 31, 0) 102 6 := hs.2.1 _ (sh_bm (sh_m21_31 n (by have := hs.1; omega) hs.1.1 ))
theorem sh_m21_32 : ∀ n, n < 7 → 4 ≤ n → (sh_b n (21, 32, 0) 100 (6)) = true := by decide +kernel
theorem sk21_32 (hs : sh n E c r) : go_ok E c (21, 32, 0) 100 6 := hs.2.1 _ (sh_bm (sh_m21_32 n (by have := hs.1; omega) hs.1.1 ))
theorem sh_m21_33 : ∀ n, n < 7 → 4 ≤ n → (sh_b n (21, 33, 0) 100 (24)) = true := by decide +kernel
theorem sk21_33 (hs : sh n E c r) : go_ok E c (21, 33, 0) 100 24 := hs.2.1 _ (sh_bm (sh_m21_33 n (by have := hs.1; omega) hs.1.1 ))
theorem sh_m21_34 : ∀ n, n < 7 → 4 ≤ n → (sh_b n (21, 34, 0) 102 (144)) = true := by decide +kernel
theorem sk21_34 (hs : sh n E c r) : go_ok E c (21, 34, 0) 102 144 := hs.2.1 _ (sh_bm (sh_m21_34 n (by have := hs.1; omega) hs.1.1 ))
theorem sh_m21_35 : ∀ n, n < 7 → 4 ≤ n → (sh_b n (21, 35, 0) 100 (144)) = true := by decide +kernel
theorem sk21_35 (hs : sh n E c r) : go_ok E c (21, 35, 0) 100 144 := hs.2.1 _ (sh_bm (sh_m21_35 n (by have := hs.1; omega) hs.1.1 ))
theorem sh_m21_37 : ∀ n, n < 7 → 4 ≤ n → (sh_b n (21, 37, 0) 102 (6)) = true := by decide +kernel
theorem sk21_37 (hs : sh n E c r) : go_ok E c (21, 37, 0) 102 6 := hs.2.1 _ (sh_bm (sh_m21_37 n (by have := hs.1; omega) hs.1.1 ))
theorem sh_m21_38 : ∀ n, n < 7 → 4 ≤ n → (sh_b n (21, 38, 0) 100 (6)) = true := by decide +kernel
theorem sk21_38 (hs : sh n E c r) : go_ok E c (21, 38, 0) 100 6 := hs.2.1 _ (sh_bm (sh_m21_38 n (by have := hs.1; omega) hs.1.1 ))
theorem sh_q0_0 : ∀ n, n < 7 → 4 ≤ n → (sh_rb n (0, 0, 0) 0 (1, 0, 0)) = true := by decide +kernel
theorem sr0_0 (hs : sh n E c r) : r (0, 0, 0) 0 = some (1, 0, 0) := hs.2.2 _ (sh_rbm (sh_q0_0 n (by have := hs.1; omega) hs.1.1 ))
theorem sh_q0_1 : ∀ n, n < 7 → 4 ≤ n → (sh_rb n (0, 0, 0) 1 (2, 0, 0)) = true := by decide +kernel
theorem sr0_1 (hs : sh n E c r) : r (0, 0, 0) 1 = some (2, 0, 0) := hs.2.2 _ (sh_rbm (sh_q0_1 n (by have := hs.1; omega) hs.1.1 ))
theorem sh_q0_2 : ∀ n, n < 7 → 4 ≤ n → (sh_rb n (0, 0, 0) 2 (6, 0, 0)) = true := by decide +kernel
theorem sr0_2 (hs : sh n E c r) : r (0, 0, 0) 2 = some (6, 0, 0) := hs.2.2 _ (sh_rbm (sh_q0_2 n (by have := hs.1; omega) hs.1.1 ))
theorem sh_q0_3 : ∀ n, n < 7 → 4 ≤ n → (sh_rb n (0, 0, 0) 3 (9, 6, 0)) = true := by decide +kernel
theorem sr0_3 (hs : sh n E c r) : r (0, 0, 0) 3 = some (9, 6, 0) := hs.2.2 _ (sh_rbm (sh_q0_3 n (by have := hs.1; omega) hs.1.1 ))
theorem sh_q2_0 : ∀ n, n < 7 → 4 ≤ n → (sh_rb n (2, 0, 0) 0 (3, 0, 0)) = true := by decide +kernel
theorem sr2_0 (hs : sh n E c r) : r (2, 0, 0) 0 = some (3, 0, 0) := hs.2.2 _ (sh_rbm (sh_q2_0 n (by have := hs.1; omega) hs.1.1 ))
theorem sh_q2_1 : ∀ n, n < 7 → 4 ≤ n → (sh_rb n (2, 0, 0) 1 (4, 0, 0)) = true := by decide +kernel
theorem sr2_1 (hs : sh n E c r) : r (2, 0, 0) 1 = some (4, 0, 0) := hs.2.2 _ (sh_rbm (sh_q2_1 n (by have := hs.1; omega) hs.1.1 ))
theorem sh_q2_2 : ∀ n, n < 7 → 4 ≤ n → (sh_rb n (2, 0, 0) 2 (5, 0, 0)) = true := by decide +kernel
theorem sr2_2 (hs : sh n E c r) : r (2, 0, 0) 2 = some (5, 0, 0) := hs.2.2 _ (sh_rbm (sh_q2_2 n (by have := hs.1; omega) hs.1.1 ))
theorem sh_q6 : ∀ n, n < 7 → 4 ≤ n → ∀ i, i < n → (sh_rb n (6, 0, 0) i (7, i, 0)) = true := by decide +kernel
theorem sr6 (hs : sh n E c r) {i : Nat} (hi : i < n) : r (6, 0, 0) i = some (7, i, 0) := hs.2.2 _ (sh_rbm (sh_q6 n (by have := hs.1; omega) hs.1.1 i hi))
theorem sh_q7_4 : ∀ n, n < 7 → 4 ≤ n → ∀ i, i < n → (sh_rb n (7, i, 0) 4 (8, i, 0)) = true := by decide +kernel
theorem sr7_4 (hs : sh n E c r) {i : Nat} (hi : i < n) : r (7, i, 0) 4 = some (8, i, 0) := hs.2.2 _ (sh_rbm (sh_q7_4 n (by have := hs.1; omega) hs.1.1 i hi))
theorem sh_q7_5 : ∀ n, n < 7 → 4 ≤ n → ∀ i, i < n → (sh_rb n (7, i, 0) 5 (9, i, 0)) = true := by decide +kernel
theorem sr7_5 (hs : sh n E c r) {i : Nat} (hi : i < n) : r (7, i, 0) 5 = some (9, i, 0) := hs.2.2 _ (sh_rbm (sh_q7_5 n (by have := hs.1; omega) hs.1.1 i hi))
theorem sh_q7_6 : ∀ n, n < 7 → 4 ≤ n → ∀ i, i < n → (sh_rb n (7, i, 0) 6 (11, i, 0)) = true := by decide +kernel
theorem sr7_6 (hs : sh n E c r) {i : Nat} (hi : i < n) : r (7, i, 0) 6 = some (11, i, 0) := hs.2.2 _ (sh_rbm (sh_q7_6 n (by have := hs.1; omega) hs.1.1 i hi))
theorem sh_q7_7 : ∀ n, n < 7 → 4 ≤ n → ∀ i, i < n → (sh_rb n (7, i, 0) 7 (12, i, 0)) = true := by decide +kernel
theorem sr7_7 (hs : sh n E c r) {i : Nat} (hi : i < n) : r (7, i, 0) 7 = some (12, i, 0) := hs.2.2 _ (sh_rbm (sh_q7_7 n (by have := hs.1; omega) hs.1.1 i hi))
theorem sh_q7_8 : ∀ n, n < 7 → 4 ≤ n → ∀ i, i < n → (sh_rb n (7, i, 0) 8 (9, i, 1)) = true := by decide +kernel
theorem sr7_8 (hs : sh n E c r) {i : Nat} (hi : i < n) : r (7, i, 0) 8 = some (9, i, 1) := hs.2.2 _ (sh_rbm (sh_q7_8 n (by have := hs.1; omega) hs.1.1 i hi))
theorem sh_q7_9 : ∀ n, n < 7 → 4 ≤ n → ∀ i, i < n → (sh_rb n (7, i, 0) 9 (13, i, 0)) = true := by decide +kernel
theorem sr7_9 (hs : sh n E c r) {i : Nat} (hi : i < n) : r (7, i, 0) 9 = some (13, i, 0) := hs.2.2 _ (sh_rbm (sh_q7_9 n (by have := hs.1; omega) hs.1.1 i hi))
theorem sh_q9_0 : ∀ n, n < 7 → 4 ≤ n → ∀ i, i < 7 → ∀ k, k < 12 → (!(decide (sh_cq n i k)) || sh_rb n (9, i, k) 0 (10, i, k)) = true := by decide +kernel
theorem sr9_0 (hs : sh n E c r) {i : Nat} {k : Nat} (hq : sh_cq n i k) : r (9, i, k) 0 = some (10, i, k) := hs.2.2 _ (sh_rbm (sh_imp (sh_q9_0 n (by have := hs.1; omega) hs.1.1 i (by have := hs.1; unfold sh_cq at hq; omega) k (by have := hs.1; unfold sh_cq at hq; omega)) hq))
theorem sh_q11 : ∀ n, n < 7 → 4 ≤ n → ∀ i, i < n → ∀ k, k < n → (sh_rb n (11, i, 0) k (9, i, 6 + k)) = true := by decide +kernel
theorem sr11 (hs : sh n E c r) {i : Nat} {k : Nat} (hi : i < n) (hk : k < n) : r (11, i, 0) k = some (9, i, 6 + k) := hs.2.2 _ (sh_rbm (sh_q11 n (by have := hs.1; omega) hs.1.1 i hi k hk))
theorem sh_q12 : ∀ n, n < 7 → 4 ≤ n → ∀ i, i < n → ∀ k, k < 4 → (sh_rb n (12, i, 0) k (9, i, 2 + k)) = true := by decide +kernel
theorem sr12 (hs : sh n E c r) {i : Nat} {k : Nat} (hi : i < n) (hk : k < 4) : r (12, i, 0) k = some (9, i, 2 + k) := hs.2.2 _ (sh_rbm (sh_q12 n (by have := hs.1; omega) hs.1.1 i hi k hk))
theorem sh_q20_8 : ∀ n, n < 7 → 4 ≤ n → (sh_rb n (20, 0, 0) 8 (21, 8, 0)) = true := by decide +kernel
theorem sr20_8 (hs : sh n E c r) : r (20, 0, 0) 8 = some (21, 8, 0) := hs.2.2 _ (sh_rbm (sh_q20_8 n (by have := hs.1; omega) hs.1.1 ))
theorem sh_q20_9 : ∀ n, n < 7 → 4 ≤ n → (sh_rb n (20, 0, 0) 9 (21, 9, 0)) = true := by decide +kernel
theorem sr20_9 (hs : sh n E c r) : r (20, 0, 0) 9 = some (21, 9, 0) := hs.2.2 _ (sh_rbm (sh_q20_9 n (by have := hs.1; omega) hs.1.1 ))
theorem sh_q20_10 : ∀ n, n < 7 → 4 ≤ n → (sh_rb n (20, 0, 0) 10 (21, 10, 0)) = true := by decide +kernel
theorem sr20_10 (hs : sh n E c r) : r (20, 0, 0) 10 = some (21, 10, 0) := hs.2.2 _ (sh_rbm (sh_q20_10 n (by have := hs.1; omega) hs.1.1 ))
theorem sh_q20_11 : ∀ n, n < 7 → 4 ≤ n → (sh_rb n (20, 0, 0) 11 (21, 11, 0)) = true := by decide +kernel
theorem sr20_11 (hs : sh n E c r) : r (20, 0, 0) 11 = some (21, 11, 0) := hs.2.2 _ (sh_rbm (sh_q20_11 n (by have := hs.1; omega) hs.1.1 ))
theorem sh_q20_12 : ∀ n, n < 7 → 4 ≤ n → (sh_rb n (20, 0, 0) 12 (21, 12, 0)) = true := by decide +kernel
theorem sr20_12 (hs : sh n E c r) : r (20, 0, 0) 12 = some (21, 12, 0) := hs.2.2 _ (sh_rbm (sh_q20_12 n (by have := hs.1; omega) hs.1.1 ))
theorem sh_q20_13 : ∀ n, n < 7 → 4 ≤ n → (sh_rb n (20, 0, 0) 13 (21, 13, 0)) = true := by decide +kernel
theorem sr20_13 (hs : sh n E c r) : r (20, 0, 0) 13 = some (21, 13, 0) := hs.2.2 _ (sh_rbm (sh_q20_13 n (by have := hs.1; omega) hs.1.1 ))
theorem sh_q20_14 : ∀ n, n < 7 → 4 ≤ n → (sh_rb n (20, 0, 0) 14 (21, 14, 0)) = true := by decide +kernel
theorem sr20_14 (hs : sh n E c r) : r (20, 0, 0) 14 = some (21, 14, 0) := hs.2.2 _ (sh_rbm (sh_q20_14 n (by have := hs.1; omega) hs.1.1 ))
theorem sh_q20_15 : ∀ n, n < 7 → 4 ≤ n → (sh_rb n (20, 0, 0) 15 (21, 15, 0)) = true := by decide +kernel
theorem sr20_15 (hs : sh n E c r) : r (20, 0, 0) 15 = some (21, 15, 0) := hs.2.2 _ (sh_rbm (sh_q20_15 n (by have := hs.1; omega) hs.1.1 ))
theorem sh_q20_16 : ∀ n, n < 7 → 4 ≤ n → (sh_rb n (20, 0, 0) 16 (21, 16, 0)) = true := by decide +kernel
theorem sr20_16 (hs : sh n E c r) : r (20, 0, 0) 16 = some (21, 16, 0) := hs.2.2 _ (sh_rbm (sh_q20_16 n (by have := hs.1; omega) hs.1.1 ))
theorem sh_q20_17 : ∀ n, n < 7 → 4 ≤ n → (sh_rb n (20, 0, 0) 17 (21, 17, 0)) = true := by decide +kernel
theorem sr20_17 (hs : sh n E c r) : r (20, 0, 0) 17 = some (21, 17, 0) := hs.2.2 _ (sh_rbm (sh_q20_17 n (by have := hs.1; omega) hs.1.1 ))
theorem sh_q20_18 : ∀ n, n < 7 → 4 ≤ n → (sh_rb n (20, 0, 0) 18 (21, 18, 0)) = true := by decide +kernel
theorem sr20_18 (hs : sh n E c r) : r (20, 0, 0) 18 = some (21, 18, 0) := hs.2.2 _ (sh_rbm (sh_q20_18 n (by have := hs.1; omega) hs.1.1 ))
theorem sh_q20_19 : ∀ n, n < 7 → 4 ≤ n → (sh_rb n (20, 0, 0) 19 (21, 19, 0)) = true := by decide +kernel
theorem sr20_19 (hs : sh n E c r) : r (20, 0, 0) 19 = some (21, 19, 0) := hs.2.2 _ (sh_rbm (sh_q20_19 n (by have := hs.1; omega) hs.1.1 ))
theorem sh_q20_20 : ∀ n, n < 7 → 4 ≤ n → (sh_rb n (20, 0, 0) 20 (21, 20, 0)) = true := by decide +kernel
theorem sr20_20 (hs : sh n E c r) : r (20, 0, 0) 20 = some (21, 20, 0) := hs.2.2 _ (sh_rbm (sh_q20_20 n (by have := hs.1; omega) hs.1.1 ))
theorem sh_q20_24 : ∀ n, n < 7 → 4 ≤ n → (sh_rb n (20, 0, 0) 24 (21, 24, 0)) = true := by decide +kernel
theorem sr20_24 (hs : sh n E c r) : r (20, 0, 0) 24 = some (21, 24, 0) := hs.2.2 _ (sh_rbm (sh_q20_24 n (by have := hs.1; omega) hs.1.1 ))
theorem sh_q20_27 : ∀ n, n < 7 → 4 ≤ n → (sh_rb n (20, 0, 0) 27 (21, 27, 0)) = true := by decide +kernel
theorem sr20_27 (hs : sh n E c r) : r (20, 0, 0) 27 = some (21, 27, 0) := hs.2.2 _ (sh_rbm (sh_q20_27 n (by have := hs.1; omega) hs.1.1 ))
theorem sh_q20_28 : ∀ n, n < 7 → 4 ≤ n → (sh_rb n (20, 0, 0) 28 (21, 28, 0)) = true := by decide +kernel
theorem sr20_28 (hs : sh n E c r) : r (20, 0, 0) 28 = some (21, 28, 0) := hs.2.2 _ (sh_rbm (sh_q20_28 n (by have := hs.1; omega) hs.1.1 ))
theorem sh_q20_29 : ∀ n, n < 7 → 4 ≤ n → (sh_rb n (20, 0, 0) 29 (21, 29, 0)) = true := by decide +kernel
theorem sr20_29 (hs : sh n E c r) : r (20, 0, 0) 29 = some (21, 29, 0) := hs.2.2 _ (sh_rbm (sh_q20_29 n (by have := hs.1; omega) hs.1.1 ))
theorem sh_q20_30 : ∀ n, n < 7 → 4 ≤ n → (sh_rb n (20, 0, 0) 30 (21, 30, 0)) = true := by decide +kernel
theorem sr20_30 (hs : sh n E c r) : r (20, 0, 0) 30 = some (21, 30, 0) := hs.2.2 _ (sh_rbm (sh_q20_30 n (by have := hs.1; omega) hs.1.1 ))
theorem sh_q20_31 : ∀ n, n < 7 → 4 ≤ n → (sh_rb n (20, 0, 0) 31 (21, 31, 0)) = true := by decide +kernel
theorem sr20_31 (hs : sh n E c r) : r (20, 0, 0) 31 = some (21, 31, 0) := hs.2.2 _ (sh_rbm (sh_q20_31 n (by have := hs.1; omega) hs.1.1 ))
theorem sh_q20_32 : ∀ n, n < 7 → 4 ≤ n → (sh_rb n (20, 0, 0) 32 (21, 32, 0)) = true := by decide +kernel
theorem sr20_32 (hs : sh n E c r) : r (20, 0, 0) 32 = some (21, 32, 0) := hs.2.2 _ (sh_rbm (sh_q20_32 n (by have := hs.1; omega) hs.1.1 ))
theorem sh_q20_33 : ∀ n, n < 7 → 4 ≤ n → (sh_rb n (20, 0, 0) 33 (21, 33, 0)) = true := by decide +kernel
theorem sr20_33 (hs : sh n E c r) : r (20, 0, 0) 33 = some (21, 33, 0) := hs.2.2 _ (sh_rbm (sh_q20_33 n (by have := hs.1; omega) hs.1.1 ))
theorem sh_q20_34 : ∀ n, n < 7 → 4 ≤ n → (sh_rb n (20, 0, 0) 34 (21, 34, 0)) = true := by decide +kernel
theorem sr20_34 (hs : sh n E c r) : r (20, 0, 0) 34 = some (21, 34, 0) := hs.2.2 _ (sh_rbm (sh_q20_34 n (by have := hs.1; omega) hs.1.1 ))
theorem sh_q20_35 : ∀ n, n < 7 → 4 ≤ n → (sh_rb n (20, 0, 0) 35 (21, 35, 0)) = true := by decide +kernel
theorem sr20_35 (hs : sh n E c r) : r (20, 0, 0) 35 = some (21, 35, 0) := hs.2.2 _ (sh_rbm (sh_q20_35 n (by have := hs.1; omega) hs.1.1 ))
theorem sh_q20_37 : ∀ n, n < 7 → 4 ≤ n → (sh_rb n (20, 0, 0) 37 (21, 37, 0)) = true := by decide +kernel
theorem sr20_37 (hs : sh n E c r) : r (20, 0, 0) 37 = some (21, 37, 0) := hs.2.2 _ (sh_rbm (sh_q20_37 n (by have := hs.1; omega) hs.1.1 ))
theorem sh_q20_38 : ∀ n, n < 7 → 4 ≤ n → (sh_rb n (20, 0, 0) 38 (21, 38, 0)) = true := by decide +kernel
theorem sr20_38 (hs : sh n E c r) : r (20, 0, 0) 38 = some (21, 38, 0) := hs.2.2 _ (sh_rbm (sh_q20_38 n (by have := hs.1; omega) hs.1.1 ))
end SH
