/-! Facts of the tables, each decided by a program over the lists. -/
def xm_good (w : Cond) : Bool := (w.onTables && w.keepsH) || (match w with
  | .arrayClass _ => true
  | .arrayOver (.object _) => true
  | _ => false)
def tb_W : List Cond := lw_tbl.filter xm_good
theorem tb_good : ∀ w ∈ tb_W, xm_good w = true := fun _ h => (List.mem_filter.mp h).2
def tb_is (i : Nat) (w : Cond) : Bool := decide (lw_tbl[i]? = some w) && xm_good w
theorem tb_is_W {i : Nat} {w : Cond} (h : tb_is i w = true) : w ∈ tb_W := by
  unfold tb_is at h
  rw [Bool.and_eq_true, decide_eq_true_eq] at h
  exact List.mem_filter.mpr ⟨List.mem_of_getElem? h.1, h.2⟩
theorem tb_find {α β : Type} {L : List α} {p : α → Bool} {f : α → β} {y : β} (h : (L.find? p).map f = some y) : ∃ x ∈ L, p x = true ∧ f x = y := by
  cases hf : L.find? p with
  | none => rw [hf] at h; cases h
  | some x =>
    rw [hf] at h
    cases h
    exact ⟨x, List.mem_of_find?_eq_some hf, List.find?_some hf, rfl⟩
theorem tb_2 {a b c d : Nat} (h : (a == c && b == d) = true) : a = c ∧ b = d := by
  rw [Bool.and_eq_true, beq_iff_eq, beq_iff_eq] at h
  exact h
def tb_fP (q : Nat × Nat × Nat × Nat × Nat × Bool) : Bool := decide (q.2.2.1 < tb_nc) && (decide (q.2.2.2.1 < tb_fn q.2.2.1) && tb_is q.2.2.2.2.1 (if q.2.2.2.2.2 = true then Cond.fieldLinkNest (tb_cn q.1) q.2.1 (tb_T q.2.2.1 q.2.2.2.1).1 (tb_T q.2.2.1 q.2.2.2.1).2.1 (tb_T q.2.2.1 q.2.2.2.1).2.2.1 "VotingRounds" else Cond.fieldLink (tb_cn q.1) q.2.1 (tb_T q.2.2.1 q.2.2.2.1).1 (tb_T q.2.2.1 q.2.2.2.1).2.1 (tb_T q.2.2.1 q.2.2.2.1).2.2.1))
theorem tb_f_all : tb_fL.all tb_fP = true := by decide +kernel
theorem tb_f_w (c i ci k : Nat) (h : tb_f c i = some (ci, k)) : ci < tb_nc ∧ k < tb_fn ci ∧ (Cond.fieldLink (tb_cn c) i (tb_T ci k).1 (tb_T ci k).2.1 (tb_T ci k).2.2.1 ∈ tb_W ∨ ∃ host, Cond.fieldLinkNest (tb_cn c) i (tb_T ci k).1 (tb_T ci k).2.1 (tb_T ci k).2.2.1 host ∈ tb_W) := by
  obtain ⟨q, hq, hp, he⟩ := tb_find h
  obtain ⟨e1, e2⟩ := tb_2 hp
  have h1 := List.all_eq_true.mp tb_f_all q hq
  unfold tb_fP at h1
  obtain ⟨q1, q2, q3, q4, q5, q6⟩ := q
  dsimp only at h1 e1 e2 he
  subst e1; subst e2
  cases he
  rw [Bool.and_eq_true, Bool.and_eq_true, decide_eq_true_eq, decide_eq_true_eq] at h1
  refine ⟨h1.1, h1.2.1, ?_⟩
  have h3 := tb_is_W h1.2.2
  split at h3
  · exact Or.inr ⟨_, h3⟩
  · exact Or.inl h3
def tb_kP (q : Nat × Nat × Int32 × Nat) : Bool := tb_is q.2.2.2 (Cond.constant (tb_cn q.1) q.2.1 q.2.2.1)
theorem tb_k_all : tb_kL.all tb_kP = true := by decide +kernel
theorem tb_k_w (c i : Nat) (x : Int32) (h : tb_k c i = some x) : Cond.constant (tb_cn c) i x ∈ tb_W := by
  obtain ⟨q, hq, hp, he⟩ := tb_find h
  obtain ⟨e1, e2⟩ := tb_2 hp
  have h1 := tb_is_W (List.all_eq_true.mp tb_k_all q hq)
  rw [e1, e2, he] at h1
  exact h1
def tb_klP (q : Nat × Nat × Int64 × Nat) : Bool := tb_is q.2.2.2 (Cond.constantLong (tb_cn q.1) q.2.1 q.2.2.1)
theorem tb_kl_all : tb_klL.all tb_klP = true := by decide +kernel
theorem tb_kl_w (c i : Nat) (x : Int64) (h : tb_kl c i = some x) : Cond.constantLong (tb_cn c) i x ∈ tb_W := by
  obtain ⟨q, hq, hp, he⟩ := tb_find h
  obtain ⟨e1, e2⟩ := tb_2 hp
  have h1 := tb_is_W (List.all_eq_true.mp tb_kl_all q hq)
  rw [e1, e2, he] at h1
  exact h1
/-- classes and fields -/
theorem tb_q_ok : ∀ ci, ci < tb_nc → tb_cl[ci]? = some (tb_C ci, tb_T ci, tb_fn ci) := by
  intro ci h
  have h6 : ci < 6 := h
  rcases (show ci = 0 ∨ ci = 1 ∨ ci = 2 ∨ ci = 3 ∨ ci = 4 ∨ ci = 5 by omega) with rfl | rfl | rfl | rfl | rfl | rfl <;> rfl
theorem tb_lay_all : (List.range tb_nc).all (fun ci => (List.range (tb_fn ci)).all (fun k => tb_is ((tb_lW ci).getD k 9999) (u_lay (tb_C ci) (tb_T ci) k))) = true := by decide +kernel
theorem tb_lay (ci : Nat) (h : ci < tb_nc) : ∀ w ∈ u_ws (tb_C ci) (tb_T ci) (tb_fn ci), w ∈ tb_W := by
  intro w hw
  unfold u_ws at hw
  obtain ⟨k, hk, rfl⟩ := List.mem_map.mp hw
  have h1 := List.all_eq_true.mp tb_lay_all ci (List.mem_range.mpr h)
  exact tb_is_W (List.all_eq_true.mp h1 k hk)
theorem tb_ty_all : (List.range tb_nc).all (fun ci => (List.range (tb_fn ci)).all (fun k => decide (parseFieldDescriptor (tb_T ci k).2.2.1 = some (tb_ty ci k)))) = true := by decide +kernel
theorem tb_ty_ok (ci : Nat) (h : ci < tb_nc) (k : Nat) (hk : k < tb_fn ci) : parseFieldDescriptor (tb_T ci k).2.2.1 = some (tb_ty ci k) :=
  of_decide_eq_true (List.all_eq_true.mp (List.all_eq_true.mp tb_ty_all ci (List.mem_range.mpr h)) k (List.mem_range.mpr hk))
theorem tb_nm_all : (List.range tb_nc).all (fun ci => (List.range (tb_fn ci)).all (fun a => (List.range (tb_fn ci)).all (fun b => decide (a ≠ b → (tb_T ci a).2.1 ≠ (tb_T ci b).2.1)))) = true := by decide +kernel
theorem tb_nm (ci : Nat) (h : ci < tb_nc) (a : Nat) (ha : a < tb_fn ci) (b : Nat) (hb : b < tb_fn ci) (hne : a ≠ b) : (tb_T ci a).2.1 ≠ (tb_T ci b).2.1 :=
  of_decide_eq_true (List.all_eq_true.mp (List.all_eq_true.mp (List.all_eq_true.mp tb_nm_all ci (List.mem_range.mpr h)) a (List.mem_range.mpr ha)) b (List.mem_range.mpr hb)) hne
def tb_ftP (t : Nat) (ty : FieldType) : Bool := match t, ty with
  | 0, .int => true
  | 1, .boolean => true
  | 2, .long => true
  | 3, .object _ => true
  | 3, .array _ => true
  | _, _ => false
theorem tb_ft_all : (List.range tb_nc).all (fun ci => (List.range (tb_fn ci)).all (fun k => tb_ftP (tb_ft ci k) (tb_ty ci k))) = true := by decide +kernel
theorem tb_ft_ok (ci : Nat) (h : ci < tb_nc) (k : Nat) (hk : k < tb_fn ci) : (tb_ft ci k = 0 ∧ tb_ty ci k = .int) ∨ (tb_ft ci k = 1 ∧ tb_ty ci k = .boolean) ∨ (tb_ft ci k = 2 ∧ tb_ty ci k = .long) ∨ (tb_ft ci k = 3 ∧ ((∃ z, tb_ty ci k = .object z) ∨ ∃ z, tb_ty ci k = .array z)) := by
  have h1 := List.all_eq_true.mp (List.all_eq_true.mp tb_ft_all ci (List.mem_range.mpr h)) k (List.mem_range.mpr hk)
  generalize tb_ft ci k = t at h1 ⊢
  generalize tb_ty ci k = ty at h1 ⊢
  unfold tb_ftP at h1
  split at h1
  · exact Or.inl ⟨rfl, rfl⟩
  · exact Or.inr (Or.inl ⟨rfl, rfl⟩)
  · exact Or.inr (Or.inr (Or.inl ⟨rfl, rfl⟩))
  · exact Or.inr (Or.inr (Or.inr ⟨rfl, Or.inl ⟨_, rfl⟩⟩))
  · exact Or.inr (Or.inr (Or.inr ⟨rfl, Or.inr ⟨_, rfl⟩⟩))
  · cases h1
theorem tb_ow_all : (List.range tb_nc).all (fun ci => (List.range (tb_fn ci)).all (fun k => decide ((tb_T ci k).1 = tb_C ci))) = true := by decide +kernel
theorem tb_fin_ok (ci : Nat) (h : ci < tb_nc) (k : Nat) (hk : k < tb_fn ci) : tb_fin ci k = (tb_T ci k).2.2.2 ∧ (tb_T ci k).1 = tb_C ci :=
  ⟨rfl, of_decide_eq_true (List.all_eq_true.mp (List.all_eq_true.mp tb_ow_all ci (List.mem_range.mpr h)) k (List.mem_range.mpr hk))⟩
theorem tb_cw_ok (ci : Nat) (_ : ci < tb_nc) : tb_cn (tb_cw ci) = tb_C ci := rfl
theorem tb_tys_ra (cA : Nat → ClassId) (ci : Nat) (h : tb_ra ci = true) : ∃ t : Nat, (tb_tys cA)[t]? = some (cA (120 + ci), FieldType.object (tb_C ci)) := by
  unfold tb_ra at h
  rw [Bool.or_eq_true, beq_iff_eq, beq_iff_eq] at h
  rcases h with rfl | rfl
  · exact ⟨3, rfl⟩
  · exact ⟨4, rfl⟩
/-- class links -/
def tb_cP (q : Nat × Nat × Nat × Nat) : Bool := decide (q.2.2.1 < tb_nc) && (tb_is q.2.2.2 (Cond.classLink (tb_cn q.1) q.2.1 (tb_C q.2.2.1)) && (tb_is (tb_nW q.2.2.1) (Cond.instantiable (tb_C q.2.2.1) (tb_fn q.2.2.1)) && (tb_is (tb_iW q.2.2.1) (Cond.initialized (tb_C q.2.2.1)) && (!(tb_ra q.2.2.1) || tb_is (tb_aW q.2.2.1) (Cond.arrayOver (.object (tb_C q.2.2.1)))))))
theorem tb_c_all : tb_cL.all tb_cP = true := by decide +kernel
theorem tb_c_w (c i ci : Nat) (h : tb_c c i = some ci) (_ : tb_nw ci = true) : ci < tb_nc ∧ Cond.classLink (tb_cn c) i (tb_C ci) ∈ tb_W ∧ Cond.instantiable (tb_C ci) (tb_fn ci) ∈ tb_W ∧ Cond.initialized (tb_C ci) ∈ tb_W := by
  obtain ⟨q, hq, hp, he⟩ := tb_find h
  obtain ⟨e1, e2⟩ := tb_2 hp
  have h1 := List.all_eq_true.mp tb_c_all q hq
  unfold tb_cP at h1
  rw [e1, e2, he] at h1
  simp only [Bool.and_eq_true, decide_eq_true_eq] at h1
  exact ⟨h1.1, tb_is_W h1.2.1, tb_is_W h1.2.2.1, tb_is_W h1.2.2.2.1⟩
theorem tb_c_a (c i ci : Nat) (h : tb_c c i = some ci) (hr : tb_ra ci = true) : ci < tb_nc ∧ Cond.classLink (tb_cn c) i (tb_C ci) ∈ tb_W ∧ Cond.arrayOver (.object (tb_C ci)) ∈ tb_W := by
  obtain ⟨q, hq, hp, he⟩ := tb_find h
  obtain ⟨e1, e2⟩ := tb_2 hp
  have h1 := List.all_eq_true.mp tb_c_all q hq
  unfold tb_cP at h1
  rw [e1, e2, he, hr] at h1
  simp only [Bool.and_eq_true, decide_eq_true_eq, Bool.not_true, Bool.false_or] at h1
  exact ⟨h1.1, tb_is_W h1.2.1, tb_is_W h1.2.2.2.2⟩
theorem tb_ai : Cond.arrayClass (newarray.typeOf .int) ∈ tb_W := tb_is_W (i := 146) (by decide +kernel)
theorem tb_aj : Cond.arrayClass (newarray.typeOf .long) ∈ tb_W := tb_is_W (i := 147) (by decide +kernel)
theorem tb_az : Cond.arrayClass (newarray.typeOf .boolean) ∈ tb_W := tb_is_W (i := 819) (by decide +kernel)
/-- what is thrown -/
def tb_xP (q : Nat × Nat × Nat × Nat) : Bool := decide (q.2.2.1 < tb_nx) && (tb_is q.2.2.2 (Cond.classLink (tb_cn q.1) q.2.1 (tb_xn q.2.2.1)) && (tb_is (tb_xW q.2.2.1).2 (Cond.instantiable (tb_xn q.2.2.1) 6) && (tb_is (tb_xW q.2.2.1).1 (Cond.initialized (tb_xn q.2.2.1)) && (Bundle.fit (tb_xn q.2.2.1) && (tb_xs q.2.2.1).all Bundle.fit))))
theorem tb_x_all : tb_xcL.all tb_xP = true := by decide +kernel
theorem tb_x_lt (c i x : Nat) (h : tb_x c i = some x) : x < tb_nx := by
  obtain ⟨q, hq, hp, he⟩ := tb_find h
  have h1 := List.all_eq_true.mp tb_x_all q hq
  unfold tb_xP at h1
  rw [he] at h1
  simp only [Bool.and_eq_true, decide_eq_true_eq] at h1
  exact h1.1
theorem tb_x_w (c i x : Nat) (h : tb_x c i = some x) : Cond.classLink (tb_cn c) i (tb_xn x) ∈ tb_W ∧ Cond.instantiable (tb_xn x) 6 ∈ tb_W ∧ Cond.initialized (tb_xn x) ∈ tb_W ∧ Bundle.fit (tb_xn x) = true ∧ ∀ n ∈ tb_xs x, Bundle.fit n = true := by
  obtain ⟨q, hq, hp, he⟩ := tb_find h
  obtain ⟨e1, e2⟩ := tb_2 hp
  have h1 := List.all_eq_true.mp tb_x_all q hq
  unfold tb_xP at h1
  rw [e1, e2, he] at h1
  simp only [Bool.and_eq_true, decide_eq_true_eq] at h1
  exact ⟨tb_is_W h1.2.1, tb_is_W h1.2.2.1, tb_is_W h1.2.2.2.1, h1.2.2.2.2.1, List.all_eq_true.mp h1.2.2.2.2.2⟩
theorem tb_xs_len (x : Nat) : (tb_xs x).length = 2 := rfl
-- methods
set_option maxRecDepth 100000 in
set_option maxHeartbeats 4000000 in
theorem tb_w_at : ∀ y : Nat, y < tb_n → lw_tbl[tb_yW y]? = some (tb_w y)
  | 0, _ => rfl
  | 1, _ => rfl
  | 2, _ => rfl
  | 3, _ => rfl
  | 4, _ => rfl
  | 5, _ => rfl
  | 6, _ => rfl
  | 7, _ => rfl
  | 8, _ => rfl
  | 9, _ => rfl
  | 10, _ => rfl
  | 11, _ => rfl
  | 12, _ => rfl
  | 13, _ => rfl
  | 14, _ => rfl
  | 15, _ => rfl
  | 16, _ => rfl
  | 17, _ => rfl
  | 18, _ => rfl
  | 19, _ => rfl
  | 20, _ => rfl
  | 21, _ => rfl
  | 22, _ => rfl
  | 23, _ => rfl
  | 24, _ => rfl
  | 25, _ => rfl
  | 26, _ => rfl
  | 27, _ => rfl
  | 28, _ => rfl
  | 29, _ => rfl
  | 30, _ => rfl
  | 31, _ => rfl
  | 32, _ => rfl
  | 33, _ => rfl
  | 34, _ => rfl
  | 35, _ => rfl
  | 36, _ => rfl
  | 37, _ => rfl
  | 38, _ => rfl
  | 39, _ => rfl
  | 40, _ => rfl
  | 41, _ => rfl
  | 42, _ => rfl
  | 43, _ => rfl
  | 44, _ => rfl
  | 45, _ => rfl
  | 46, _ => rfl
  | 47, _ => rfl
  | 48, _ => rfl
  | 49, _ => rfl
  | 50, _ => rfl
  | 51, _ => rfl
  | 52, _ => rfl
  | 53, _ => rfl
  | 54, _ => rfl
  | 55, _ => rfl
  | 56, _ => rfl
  | 57, _ => rfl
  | 58, _ => rfl
  | 59, _ => rfl
  | 60, _ => rfl
  | 61, _ => rfl
  | 62, _ => rfl
  | 63, _ => rfl
  | 64, _ => rfl
  | 65, _ => rfl
  | 66, _ => rfl
  | 67, _ => rfl
  | 68, _ => rfl
  | 69, _ => rfl
  | 70, _ => rfl
  | 71, _ => rfl
  | 72, _ => rfl
  | 73, _ => rfl
  | 74, _ => rfl
  | 75, _ => rfl
  | 76, _ => rfl
  | 77, _ => rfl
  | 78, _ => rfl
  | 79, _ => rfl
  | 80, _ => rfl
  | 81, _ => rfl
  | 82, _ => rfl
  | 83, _ => rfl
  | 84, _ => rfl
  | 85, _ => rfl
  | 86, _ => rfl
  | 87, _ => rfl
  | 88, _ => rfl
  | 89, _ => rfl
  | 90, _ => rfl
  | 91, _ => rfl
  | 92, _ => rfl
  | 93, _ => rfl
  | 94, _ => rfl
  | 95, _ => rfl
  | 96, _ => rfl
  | 97, _ => rfl
  | 98, _ => rfl
  | 99, _ => rfl
  | 100, _ => rfl
  | 101, _ => rfl
  | 102, _ => rfl
  | 103, _ => rfl
  | 104, _ => rfl
  | 105, _ => rfl
  | 106, _ => rfl
  | 107, _ => rfl
  | 108, _ => rfl
  | 109, _ => rfl
  | 110, _ => rfl
  | 111, _ => rfl
  | 112, _ => rfl
  | 113, _ => rfl
  | 114, _ => rfl
  | 115, _ => rfl
  | 116, _ => rfl
  | 117, _ => rfl
  | 118, _ => rfl
  | 119, _ => rfl
  | 120, _ => rfl
  | 121, _ => rfl
  | 122, _ => rfl
  | 123, _ => rfl
  | 124, _ => rfl
  | 125, _ => rfl
  | 126, _ => rfl
  | 127, _ => rfl
  | 128, _ => rfl
  | 129, _ => rfl
  | 130, _ => rfl
  | 131, _ => rfl
  | 132, _ => rfl
  | 133, _ => rfl
  | 134, _ => rfl
  | 135, _ => rfl
  | 136, _ => rfl
  | 137, _ => rfl
  | 138, _ => rfl
  | 139, _ => rfl
  | 140, _ => rfl
  | 141, _ => rfl
  | 142, _ => rfl
  | 143, _ => rfl
  | 144, _ => rfl
  | n + 145, h => absurd h (Nat.not_lt.mpr (Nat.le_add_left _ _))
def tb_yP (y : Nat) : Bool := decide ((tb_y y).cls = tb_cn (tb_ow y)) && (plainFor (tb_y y) && (decide ((tb_y y).cls ≠ "java/lang/invoke/MethodHandle" ∧ (tb_y y).cls ≠ "java/lang/invoke/VarHandle") && (decide ((parseMethodDescriptor (tb_y y).desc).map (fun d => d.parameters.length) = some (tb_np y)) && (tb_is (tb_iW (tb_ow y)) (Cond.initialized (tb_y y).cls) && (xm_good (tb_w y) && (decide (tb_ml y ≤ 17) && decide (tb_ini y = true → (tb_y y).name = "<init>")))))))
theorem tb_y_all : (List.range tb_n).all tb_yP = true := by decide +kernel
theorem tb_y_ok (y : Nat) (h : y < tb_n) : (tb_y y).cls = tb_cn (tb_ow y) ∧ plainFor (tb_y y) = true ∧ ((tb_y y).cls ≠ "java/lang/invoke/MethodHandle" ∧ (tb_y y).cls ≠ "java/lang/invoke/VarHandle") ∧ (parseMethodDescriptor (tb_y y).desc).map (fun d => d.parameters.length) = some (tb_np y) ∧ Cond.initialized (tb_y y).cls ∈ tb_W ∧ tb_w y ∈ tb_W ∧ tb_ml y ≤ 17 := by
  have h1 := List.all_eq_true.mp tb_y_all y (List.mem_range.mpr h)
  unfold tb_yP at h1
  simp only [Bool.and_eq_true, decide_eq_true_eq] at h1
  exact ⟨h1.1, h1.2.1, h1.2.2.1, h1.2.2.2.1, tb_is_W h1.2.2.2.2.1, List.mem_filter.mpr ⟨List.mem_of_getElem? (tb_w_at y h), h1.2.2.2.2.2.1⟩, h1.2.2.2.2.2.2.1⟩
theorem tb_ini_ok (y : Nat) (h : y < tb_n) (hi : tb_ini y = true) : (tb_y y).name = "<init>" := by
  have h1 := List.all_eq_true.mp tb_y_all y (List.mem_range.mpr h)
  unfold tb_yP at h1
  simp only [Bool.and_eq_true, decide_eq_true_eq] at h1
  exact h1.2.2.2.2.2.2.2 hi
theorem tb_rt_ok (j : Nat) : (tb_rt j = 1 → tb_ret j = some .int) ∧ (tb_rt j = 2 → tb_ret j = some .boolean) ∧ (tb_rt j = 3 → tb_ret j = some .long) ∧ (tb_rt j = 0 → tb_ret j = none) := by
  unfold tb_rt
  generalize tb_ret j = r
  split <;> refine ⟨fun h => ?_, fun h => ?_, fun h => ?_, fun h => ?_⟩ <;> first | rfl | (exact absurd h (by decide))
/-- calls -/
def tb_mP (q : Nat × Nat × Nat × Nat × Nat × Nat × Nat × Bool) : Bool := if q.2.2.1 = 3 then tb_is q.2.2.2.2.1 (Cond.methodLink (tb_cn q.1) q.2.1 Lib.objectInit) else
  decide (q.2.2.2.1 < tb_n) && (tb_is q.2.2.2.2.1 (if q.2.2.2.2.2.2.2 = true then Cond.methodLinkNest (tb_cn q.1) q.2.1 (tb_y q.2.2.2.1) "VotingRounds" else Cond.methodLink (tb_cn q.1) q.2.1 (tb_y q.2.2.2.1)) &&
    (if q.2.2.1 = 1 then tb_is q.2.2.2.2.2.1 (Cond.static (tb_y q.2.2.2.1)) else tb_is q.2.2.2.2.2.1 (Cond.instanceMethod (tb_y q.2.2.2.1)) && (if q.2.2.1 = 2 then decide ((tb_y q.2.2.2.1).name = "<init>" ∧ tb_h q.2.2.2.1 = [] ∧ tb_ret q.2.2.2.1 = none) else decide (q.2.2.1 = 0) && (tb_is q.2.2.2.2.2.2.1 (Cond.selects (tb_C (tb_kc q.2.2.2.1)) (tb_y q.2.2.2.1) (tb_y q.2.2.2.1))))))
theorem tb_m_all : tb_mL.all tb_mP = true := by decide +kernel
theorem tb_m_q {c i k y : Nat} (h : tb_m c i = some (k, y)) : ∃ p1 p2 p3 b, tb_mP (c, i, k, y, p1, p2, p3, b) = true := by
  obtain ⟨q, hq, hp, he⟩ := tb_find h
  obtain ⟨e1, e2⟩ := tb_2 hp
  have h1 := List.all_eq_true.mp tb_m_all q hq
  obtain ⟨q1, q2, q3, q4, q5, q6, q7, q8⟩ := q
  dsimp only at e1 e2 he
  subst e1; subst e2
  cases he
  exact ⟨q5, q6, q7, q8, h1⟩
theorem tb_m_lk {c i y p1 : Nat} {b : Bool} (h : tb_is p1 (if b = true then Cond.methodLinkNest (tb_cn c) i (tb_y y) "VotingRounds" else Cond.methodLink (tb_cn c) i (tb_y y)) = true) : Cond.methodLink (tb_cn c) i (tb_y y) ∈ tb_W ∨ ∃ host, Cond.methodLinkNest (tb_cn c) i (tb_y y) host ∈ tb_W := by
  have h3 := tb_is_W h
  split at h3
  · exact Or.inr ⟨_, h3⟩
  · exact Or.inl h3
theorem tb_m_s (c i y : Nat) (h : tb_m c i = some (1, y)) : y < tb_n ∧ (Cond.methodLink (tb_cn c) i (tb_y y) ∈ tb_W ∨ ∃ host, Cond.methodLinkNest (tb_cn c) i (tb_y y) host ∈ tb_W) ∧ Cond.static (tb_y y) ∈ tb_W := by
  obtain ⟨p1, p2, p3, b, h1⟩ := tb_m_q h
  unfold tb_mP at h1
  dsimp only at h1
  rw [if_neg (show ¬ ((1 : Nat) = 3) by decide), if_pos (rfl : (1 : Nat) = 1), Bool.and_eq_true, Bool.and_eq_true, decide_eq_true_eq] at h1
  exact ⟨h1.1, tb_m_lk h1.2.1, tb_is_W h1.2.2⟩
theorem tb_m_v (c i y : Nat) (h : tb_m c i = some (0, y)) : y < tb_n ∧ (Cond.methodLink (tb_cn c) i (tb_y y) ∈ tb_W ∨ ∃ host, Cond.methodLinkNest (tb_cn c) i (tb_y y) host ∈ tb_W) ∧ Cond.instanceMethod (tb_y y) ∈ tb_W ∧ Cond.selects (tb_C (tb_kc y)) (tb_y y) (tb_y y) ∈ tb_W ∧ True := by
  obtain ⟨p1, p2, p3, b, h1⟩ := tb_m_q h
  unfold tb_mP at h1
  dsimp only at h1
  rw [if_neg (show ¬ ((0 : Nat) = 3) by decide), if_neg (show ¬ ((0 : Nat) = 1) by decide), if_neg (show ¬ ((0 : Nat) = 2) by decide), Bool.and_eq_true, Bool.and_eq_true, Bool.and_eq_true, Bool.and_eq_true, decide_eq_true_eq] at h1
  exact ⟨h1.1, tb_m_lk h1.2.1, tb_is_W h1.2.2.1, tb_is_W h1.2.2.2.2, trivial⟩
theorem tb_m_i (c i y : Nat) (h : tb_m c i = some (2, y)) : y < tb_n ∧ (Cond.methodLink (tb_cn c) i (tb_y y) ∈ tb_W ∨ ∃ host, Cond.methodLinkNest (tb_cn c) i (tb_y y) host ∈ tb_W) ∧ Cond.instanceMethod (tb_y y) ∈ tb_W ∧ (tb_y y).name = "<init>" ∧ tb_h y = [] ∧ tb_ret y = none := by
  obtain ⟨p1, p2, p3, b, h1⟩ := tb_m_q h
  unfold tb_mP at h1
  dsimp only at h1
  rw [if_neg (show ¬ ((2 : Nat) = 3) by decide), if_neg (show ¬ ((2 : Nat) = 1) by decide), if_pos (rfl : (2 : Nat) = 2), Bool.and_eq_true, Bool.and_eq_true, Bool.and_eq_true, decide_eq_true_eq, decide_eq_true_eq] at h1
  exact ⟨h1.1, tb_m_lk h1.2.1, tb_is_W h1.2.2.1, h1.2.2.2.1, h1.2.2.2.2.1, h1.2.2.2.2.2⟩
theorem tb_o1 : Cond.instanceMethod Lib.objectInit ∈ tb_W := tb_is_W (i := 71) (by decide +kernel)
theorem tb_o2 : Cond.code Lib.objectInit ⟨#[0xb1]⟩ 1 none ∈ tb_W := tb_is_W (i := 72) (by decide +kernel)
theorem tb_m_o (c i y : Nat) (h : tb_m c i = some (3, y)) : Cond.methodLink (tb_cn c) i Lib.objectInit ∈ tb_W ∧ Cond.instanceMethod Lib.objectInit ∈ tb_W ∧ Cond.code Lib.objectInit ⟨#[0xb1]⟩ 1 none ∈ tb_W := by
  obtain ⟨p1, p2, p3, b, h1⟩ := tb_m_q h
  unfold tb_mP at h1
  dsimp only at h1
  rw [if_pos (rfl : (3 : Nat) = 3)] at h1
  exact ⟨tb_is_W h1, tb_o1, tb_o2⟩
/-- handlers -/
def tb_hP (j : Nat) (q : Nat × Nat × Nat × Nat) : Bool := decide (q.2.2.2 ≠ 0) && (tb_x (tb_ow j) q.2.2.2).isSome
theorem tb_h_all : (List.range tb_n).all (fun j => (tb_h j).all (tb_hP j)) = true := by decide +kernel
theorem tb_h_ok (j : Nat) (hj : j < tb_n) : ∀ q ∈ tb_h j, q.2.2.2 ≠ 0 ∧ ∃ x, tb_x (tb_ow j) q.2.2.2 = some x ∧ x < tb_nx := by
  intro q hq
  have h1 := List.all_eq_true.mp (List.all_eq_true.mp tb_h_all j (List.mem_range.mpr hj)) q hq
  unfold tb_hP at h1
  rw [Bool.and_eq_true, decide_eq_true_eq] at h1
  obtain ⟨x, hx⟩ := Option.isSome_iff_exists.mp h1.2
  exact ⟨h1.1, x, hx, tb_x_lt _ _ _ hx⟩
