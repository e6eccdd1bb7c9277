/-! Rows of the small machine: an instruction each. -/
section GO
variable {E : xm_E} {d : Nat} {md : Bool} {j pc : Nat} {lv : xm_L} {st : List xm_V} {h : xm_H} {R : xm_O}
theorem go_step {ins : Instr} {len : Nat} {q : xm_F} (hd : decode (tb_cd j) pc = .ok (ins, len)) (hl : len = xm_len ins ∨ xm_len ins = 0) (hex : xm_ex E md j pc ins len lv st h = some (.inl q)) (k : xm_G E d md j q.1 q.2.1 q.2.2.1 q.2.2.2 R) : xm_G E d md j pc lv st h R := by
  obtain ⟨f, hf⟩ := k
  exact ⟨f + 1, ins, len, .inl q, hd, hl, hex, hf⟩
theorem go_out {ins : Instr} {len : Nat} (hd : decode (tb_cd j) pc = .ok (ins, len)) (hl : len = xm_len ins ∨ xm_len ins = 0) (hex : xm_ex E md j pc ins len lv st h = some (.inr (.inl R))) : xm_G E d md j pc lv st h R := ⟨1, ins, len, .inr (.inl R), hd, hl, hex, rfl⟩
theorem go_call {ins : Instr} {len : Nat} {q : Nat × List xm_V × List xm_V} {md' : Bool} {v : Option xm_V} {h' : xm_H} (hd : decode (tb_cd j) pc = .ok (ins, len)) (hl : len = xm_len ins ∨ xm_len ins = 0) (hex : xm_ex E md j pc ins len lv st h = some (.inr (.inr q))) (hm : md' = true → md = true) (hC : xm_C E d md' q.1 q.2.1 h (.inl v, h'))
    (k : xm_G E d md j (pc + 3) lv (v.toList ++ q.2.2) h' R) : xm_G E d md j pc lv st h R := by
  obtain ⟨f, hf⟩ := k
  exact ⟨f + 1, ins, len, .inr (.inr q), hd, hl, hex, md', (.inl v, h'), hm, hC, hf⟩
theorem go_thr {ins : Instr} {len t : Nat} {q : Nat × List xm_V × List xm_V} {x : xm_I × Nat} {h' : xm_H} (hd : decode (tb_cd j) pc = .ok (ins, len)) (hl : len = xm_len ins ∨ xm_len ins = 0) (hex : xm_ex E true j pc ins len lv st h = some (.inr (.inr q))) (hC : xm_C E d false q.1 q.2.1 h (.inr x, h')) (ht : xm_hd j pc x.2 = some t)
    (k : xm_G E d true j t lv [xm_r x.1] h' R) : xm_G E d true j pc lv st h R := by
  obtain ⟨f, hf⟩ := k
  exact ⟨f + 1, ins, len, .inr (.inr q), hd, hl, hex, false, (.inr x, h'), (fun z => by cases z), hC, rfl, rfl, t, ht, hf⟩
theorem go_in {as : List xm_V} (hj : j < tb_n) (hl : (xm_args as).length ≤ tb_ml j) (hx : ∀ x, R.1 = .inr x → 4 ≤ d) (k : xm_G E d md j 0 (xm_ent as (tb_ml j)) [] h R) : xm_C E (d + 1) md j as h R := ⟨hj, hl, hx, k⟩
theorem go_inr {as : List xm_V} {v : Option xm_V} {h' : xm_H} (hj : j < tb_n) (hl : (xm_args as).length ≤ tb_ml j) (k : xm_G E d md j 0 (xm_ent as (tb_ml j)) [] h (.inl v, h')) : xm_C E (d + 1) md j as h (.inl v, h') := ⟨hj, hl, (fun x hx => by cases hx), k⟩
theorem go_jmp {off : Int} {t : Nat} (h : (pc : Int) + off = (t : Int)) : xm_jmp pc off = some t := by
  unfold xm_jmp
  rw [if_pos (by omega), h]
  rfl
theorem go_if {c : ClassFile.Cond} {off : Int} {t : Nat} {x : Int32} (hd : decode (tb_cd j) pc = .ok (.ifCond c off, 3)) (ht : (pc : Int) + off = (t : Int)) (k1 : xm_cnd c x 0 = true → xm_G E d md j t lv st h R) (k2 : xm_cnd c x 0 = false → xm_G E d md j (pc + 3) lv st h R) : xm_G E d md j pc lv (xm_i x :: st) h R := by
  cases hb : xm_cnd c x 0 with
  | true => exact go_step (q := (t, lv, st, h)) hd (Or.inl rfl) (by simp only [xm_ex, xm_br, go_jmp ht, hb]; rfl) (k1 hb)
  | false => exact go_step (q := (pc + 3, lv, st, h)) hd (Or.inl rfl) (by simp only [xm_ex, xm_br, go_jmp ht, hb]; rfl) (k2 hb)
theorem go_ic {c : ClassFile.Cond} {off : Int} {t : Nat} {x y : Int32} (hd : decode (tb_cd j) pc = .ok (.if_icmp c off, 3)) (ht : (pc : Int) + off = (t : Int)) (k1 : xm_cnd c x y = true → xm_G E d md j t lv st h R) (k2 : xm_cnd c x y = false → xm_G E d md j (pc + 3) lv st h R) : xm_G E d md j pc lv (xm_i y :: xm_i x :: st) h R := by
  cases hb : xm_cnd c x y with
  | true => exact go_step (q := (t, lv, st, h)) hd (Or.inl rfl) (by simp only [xm_ex, xm_br, go_jmp ht, hb]; rfl) (k1 hb)
  | false => exact go_step (q := (pc + 3, lv, st, h)) hd (Or.inl rfl) (by simp only [xm_ex, xm_br, go_jmp ht, hb]; rfl) (k2 hb)
theorem go_to {off : Int} {t : Nat} (hd : decode (tb_cd j) pc = .ok (.goto off, 3)) (ht : (pc : Int) + off = (t : Int)) (k : xm_G E d md j t lv st h R) : xm_G E d md j pc lv st h R :=
  go_step (q := (t, lv, st, h)) hd (Or.inl rfl) (by simp only [xm_ex, xm_br, go_jmp ht]; rfl) k
theorem go_get {i ci k : Nat} {a : xm_I} (hd : decode (tb_cd j) pc = .ok (.getfield i, 3)) (hf : tb_f (tb_ow j) i = some (ci, k)) (hok : xm_ok E h a ci) {v : xm_V} (hv : xm_fv h a (tb_ft ci k) k = v) (kk : xm_G E d md j (pc + 3) lv (v :: st) h R) : xm_G E d md j pc lv (xm_r a :: st) h R := by
  subst hv
  exact go_step (q := (pc + 3, lv, xm_fv h a (tb_ft ci k) k :: st, h)) hd (Or.inl rfl) (by simp only [xm_ex, hf]; rw [if_pos hok]) kk
theorem go_put {i ci k : Nat} {a : xm_I} {v : xm_V} {h' : xm_H} (hd : decode (tb_cd j) pc = .ok (.putfield i, 3)) (hf : tb_f (tb_ow j) i = some (ci, k)) (hfin : tb_fin ci k = false ∨ (tb_ini j = true ∧ tb_ow j = tb_cw ci)) (hok : xm_ok E h a ci) (hp : xm_pv h a (tb_ft ci k) k v = some h') (kk : xm_G E d true j (pc + 3) lv st h' R) : xm_G E d true j pc lv (v :: xm_r a :: st) h R :=
  go_step (q := (pc + 3, lv, st, h')) hd (Or.inl rfl) (by simp only [xm_ex, hf]; rw [if_pos ⟨hok, trivial, hfin⟩, hp]) kk
theorem go_ild {a : xm_I} {x : Int32} (hd : decode (tb_cd j) pc = .ok (.iaload, 1)) (hok : xm_ok E h a 100 ∨ (E.1 a).1 = 110) (hi : xm_in x (E.1 a).2) (kk : xm_G E d md j (pc + 1) lv (xm_i (h.2.1 a x.toNatClampNeg) :: st) h R) : xm_G E d md j pc lv (xm_i x :: xm_r a :: st) h R :=
  go_step (q := (pc + 1, lv, xm_i (h.2.1 a x.toNatClampNeg) :: st, h)) hd (Or.inl rfl) (by simp only [xm_ex]; rw [if_pos ⟨hok, hi⟩]) kk
theorem go_lld {a : xm_I} {x : Int32} (hd : decode (tb_cd j) pc = .ok (.laload, 1)) (hok : xm_ok E h a 101) (hi : xm_in x (E.1 a).2) (kk : xm_G E d md j (pc + 1) lv (xm_l (h.2.2.1 a x.toNatClampNeg) :: st) h R) : xm_G E d md j pc lv (xm_i x :: xm_r a :: st) h R :=
  go_step (q := (pc + 1, lv, xm_l (h.2.2.1 a x.toNatClampNeg) :: st, h)) hd (Or.inl rfl) (by simp only [xm_ex]; rw [if_pos ⟨hok, hi⟩]) kk
theorem go_bld {a : xm_I} {x : Int32} (hd : decode (tb_cd j) pc = .ok (.baload, 1)) (hok : xm_ok E h a 102) (hi : xm_in x (E.1 a).2) (kk : xm_G E d md j (pc + 1) lv (xm_i (h.2.1 a x.toNatClampNeg) :: st) h R) : xm_G E d md j pc lv (xm_i x :: xm_r a :: st) h R :=
  go_step (q := (pc + 1, lv, xm_i (h.2.1 a x.toNatClampNeg) :: st, h)) hd (Or.inl rfl) (by simp only [xm_ex]; rw [if_pos ⟨hok, hi⟩]) kk
theorem go_ald {a b : xm_I} {x : Int32} (hd : decode (tb_cd j) pc = .ok (.aaload, 1)) (hk : xm_kr (E.1 a).1) (hal : E.2.1 a < h.1.1) (hi : xm_in x (E.1 a).2) (hb : h.2.2.2 a x.toNatClampNeg = some b) (kk : xm_G E d md j (pc + 1) lv (xm_r b :: st) h R) : xm_G E d md j pc lv (xm_i x :: xm_r a :: st) h R :=
  go_step (q := (pc + 1, lv, xm_r b :: st, h)) hd (Or.inl rfl) (by simp only [xm_ex]; rw [if_pos ⟨hk, hal, hi⟩, hb]) kk
theorem go_ist {a : xm_I} {x v : Int32} (hd : decode (tb_cd j) pc = .ok (.iastore, 1)) (hok : xm_ok E h a 100) (hi : xm_in x (E.1 a).2) (kk : xm_G E d true j (pc + 1) lv st (xm_ui h a x.toNatClampNeg v) R) : xm_G E d true j pc lv (xm_i v :: xm_i x :: xm_r a :: st) h R :=
  go_step (q := (pc + 1, lv, st, xm_ui h a x.toNatClampNeg v)) hd (Or.inl rfl) (by simp only [xm_ex]; rw [if_pos ⟨trivial, hok, hi⟩]) kk
theorem go_bst {a : xm_I} {x v : Int32} (hd : decode (tb_cd j) pc = .ok (.bastore, 1)) (hok : xm_ok E h a 102) (hi : xm_in x (E.1 a).2) (hv : v = 0 ∨ v = 1) (kk : xm_G E d true j (pc + 1) lv st (xm_ui h a x.toNatClampNeg v) R) : xm_G E d true j pc lv (xm_i v :: xm_i x :: xm_r a :: st) h R :=
  go_step (q := (pc + 1, lv, st, xm_ui h a x.toNatClampNeg v)) hd (Or.inl rfl) (by simp only [xm_ex]; rw [if_pos ⟨trivial, hok, hi, hv⟩]) kk
theorem go_lst {a : xm_I} {x : Int32} {v : Int64} (hd : decode (tb_cd j) pc = .ok (.lastore, 1)) (hok : xm_ok E h a 101) (hi : xm_in x (E.1 a).2) (kk : xm_G E d true j (pc + 1) lv st (xm_ul h a x.toNatClampNeg v) R) : xm_G E d true j pc lv (xm_l v :: xm_i x :: xm_r a :: st) h R :=
  go_step (q := (pc + 1, lv, st, xm_ul h a x.toNatClampNeg v)) hd (Or.inl rfl) (by simp only [xm_ex]; rw [if_pos ⟨trivial, hok, hi⟩]) kk
theorem go_ast {a v : xm_I} {x : Int32} (hd : decode (tb_cd j) pc = .ok (.aastore, 1)) (h1 : (E.1 v).1 < tb_nc) (h2 : tb_ra (E.1 v).1 = true) (h3 : E.2.1 v < h.1.1) (hok : xm_ok E h a (120 + (E.1 v).1)) (hi : xm_in x (E.1 a).2) (kk : xm_G E d true j (pc + 1) lv st (xm_ur h a x.toNatClampNeg (some v)) R) : xm_G E d true j pc lv (xm_r v :: xm_i x :: xm_r a :: st) h R :=
  go_step (q := (pc + 1, lv, st, xm_ur h a x.toNatClampNeg (some v))) hd (Or.inl rfl) (by simp only [xm_ex]; rw [if_pos ⟨trivial, h1, h2, h3, hok, hi⟩]) kk
theorem go_len {a : xm_I} (hd : decode (tb_cd j) pc = .ok (.arraylength, 1)) (hok : (E.1 a).1 = 110 ∨ (E.2.1 a < h.1.1 ∧ ((E.1 a).1 = 100 ∨ (E.1 a).1 = 101 ∨ (E.1 a).1 = 102 ∨ xm_kr (E.1 a).1))) (kk : xm_G E d md j (pc + 1) lv (xm_i (Int32.ofNat (E.1 a).2) :: st) h R) : xm_G E d md j pc lv (xm_r a :: st) h R :=
  go_step (q := (pc + 1, lv, xm_i (Int32.ofNat (E.1 a).2) :: st, h)) hd (Or.inl rfl) (by simp only [xm_ex]; rw [if_pos hok]) kk
theorem go_new {i ci : Nat} (hd : decode (tb_cd j) pc = .ok (.new i, 3)) (hc : tb_c (tb_ow j) i = some ci) (hn : tb_nw ci = true) {a : xm_I} (ha : E.2.2 h.1.1 = a) (hk : E.1 a = (ci, 0)) (kk : xm_G E d true j (pc + 3) lv (xm_r a :: st) (xm_new h (tb_fn ci)) R) : xm_G E d true j pc lv st h R := by
  subst ha
  exact go_step (q := (pc + 3, lv, xm_r (E.2.2 h.1.1) :: st, xm_new h (tb_fn ci))) hd (Or.inl rfl) (by simp only [xm_ex, hc]; rw [if_pos ⟨hk, trivial, hn⟩]) kk
theorem go_na {t : ArrayType} {x : Int32} {n : Nat} (hd : decode (tb_cd j) pc = .ok (.newarray t, 2)) (hx : ¬ x < 0) (hn : x.toNatClampNeg = n) (h6 : n ≤ 60000) {a : xm_I} (ha : E.2.2 h.1.1 = a) (hk : E.1 a = (xm_tag t, n)) (ht : 100 ≤ xm_tag t) (kk : xm_G E d true j (pc + 2) lv (xm_r a :: st) (xm_new h n) R) : xm_G E d true j pc lv (xm_i x :: st) h R := by
  subst ha; subst hn
  exact go_step (q := (pc + 2, lv, xm_r (E.2.2 h.1.1) :: st, xm_new h x.toNatClampNeg)) hd (Or.inl rfl) (by simp only [xm_ex]; rw [if_pos ⟨hx, h6, hk, (by rw [hk]; exact ht), trivial⟩]) kk
theorem go_an {i ci n : Nat} {x : Int32} (hd : decode (tb_cd j) pc = .ok (.anewarray i, 3)) (hc : tb_c (tb_ow j) i = some ci) (hr : tb_ra ci = true) (hx : ¬ x < 0) (hn : x.toNatClampNeg = n) (h6 : n ≤ 60000) {a : xm_I} (ha : E.2.2 h.1.1 = a) (hk : E.1 a = (120 + ci, n)) (kk : xm_G E d true j (pc + 3) lv (xm_r a :: st) (xm_new h n) R) : xm_G E d true j pc lv (xm_i x :: st) h R := by
  subst ha; subst hn
  exact go_step (q := (pc + 3, lv, xm_r (E.2.2 h.1.1) :: st, xm_new h x.toNatClampNeg)) hd (Or.inl rfl) (by simp only [xm_ex, hc]; rw [if_pos ⟨hx, h6, trivial, hr, hk⟩]) kk
theorem go_exc {i ic x : Nat} {a : xm_I} (hd : decode (tb_cd j) pc = .ok (.new i, 3)) (hc : tb_c (tb_ow j) i = none) (hx : tb_x (tb_ow j) i = some x) (h3 : decode (tb_cd j) (pc + 3) = .ok (.dup, 1)) (h4 : decode (tb_cd j) (pc + 4) = .ok (.invokespecial ic, 3)) (h7 : decode (tb_cd j) (pc + 7) = .ok (.athrow, 1)) (hi : tb_xi (tb_ow j) ic = some x) (hh : tb_h j = []) (ha : E.2.2 h.1.1 = a) (hk : 200 ≤ (E.1 a).1) :
    xm_G E d false j pc lv [] h (.inr (a, x), xm_new h 6) := by
  subst ha
  exact go_out hd (Or.inl rfl) (by simp only [xm_ex, hc, hx, h3, h4, h7]; rw [if_pos ⟨hi, trivial, trivial, hh, hk⟩])
theorem go_cs {i y : Nat} {as rest : List xm_V} {md' : Bool} {v : Option xm_V} {h' : xm_H} (hd : decode (tb_cd j) pc = .ok (.invokestatic i, 3)) (hm : tb_m (tb_ow j) i = some (1, y)) (hn : as.length = tb_np y) (h8 : xm_w8 rest) (hmd : md' = true → md = true) (hC : xm_C E d md' y as h (.inl v, h')) (k : xm_G E d md j (pc + 3) lv (v.toList ++ rest) h' R) : xm_G E d md j pc lv (as.reverse ++ rest) h R := by
  have hl : tb_np y = as.reverse.length := by rw [List.length_reverse, hn]
  refine go_call (q := (y, as, rest)) hd (Or.inl rfl) ?_ hmd hC k
  simp only [xm_ex, hm, xm_pops]
  rw [hl, List.take_left, List.drop_left, List.reverse_reverse, if_pos ⟨by rw [List.length_append]; omega, h8⟩]
theorem go_cv {i y : Nat} {a : xm_I} {as rest : List xm_V} {md' : Bool} {v : Option xm_V} {h' : xm_H} (hd : decode (tb_cd j) pc = .ok (.invokevirtual i, 3)) (hm : tb_m (tb_ow j) i = some (0, y)) (hn : as.length = tb_np y) (hk : tb_kc y < tb_nc) (hok : xm_ok E h a (tb_kc y)) (h8 : xm_w8 rest) (hmd : md' = true → md = true) (hC : xm_C E d md' y (xm_r a :: as) h (.inl v, h')) (k : xm_G E d md j (pc + 3) lv (v.toList ++ rest) h' R) : xm_G E d md j pc lv (as.reverse ++ xm_r a :: rest) h R := by
  have hl : tb_np y = as.reverse.length := by rw [List.length_reverse, hn]
  refine go_call (q := (y, xm_r a :: as, rest)) hd (Or.inl rfl) ?_ hmd hC k
  simp only [xm_ex, hm, xm_pops]
  rw [hl, List.take_left, List.drop_left, List.reverse_reverse]
  simp only []
  rw [if_pos ⟨hok, hk, h8⟩]
theorem go_ci {i y : Nat} {a : xm_I} {as rest : List xm_V} {md' : Bool} {v : Option xm_V} {h' : xm_H} (hd : decode (tb_cd j) pc = .ok (.invokespecial i, 3)) (hm : tb_m (tb_ow j) i = some (2, y)) (hn : as.length = tb_np y) (h8 : xm_w8 rest) (hmd : md' = true → md = true) (hC : xm_C E d md' y (xm_r a :: as) h (.inl v, h')) (k : xm_G E d md j (pc + 3) lv (v.toList ++ rest) h' R) : xm_G E d md j pc lv (as.reverse ++ xm_r a :: rest) h R := by
  have hl : tb_np y = as.reverse.length := by rw [List.length_reverse, hn]
  refine go_call (q := (y, xm_r a :: as, rest)) hd (Or.inl rfl) ?_ hmd hC k
  simp only [xm_ex, hm, xm_pops]
  rw [hl, List.take_left, List.drop_left, List.reverse_reverse]
  simp only []
  rw [if_pos h8]
theorem go_co {i y : Nat} {a : xm_I} {rest : List xm_V} (hd : decode (tb_cd j) pc = .ok (.invokespecial i, 3)) (hm : tb_m (tb_ow j) i = some (3, y)) (h8 : xm_w8 rest) (k : xm_G E d md j (pc + 3) lv rest h R) : xm_G E d md j pc lv (xm_r a :: rest) h R :=
  go_step (q := (pc + 3, lv, rest, h)) hd (Or.inl rfl) (by simp only [xm_ex, hm]; rw [if_pos h8]) k
theorem go_tv {i y t : Nat} {a : xm_I} {as rest : List xm_V} {x : xm_I × Nat} {h' : xm_H} (hd : decode (tb_cd j) pc = .ok (.invokevirtual i, 3)) (hm : tb_m (tb_ow j) i = some (0, y)) (hn : as.length = tb_np y) (hk : tb_kc y < tb_nc) (hok : xm_ok E h a (tb_kc y)) (h8 : xm_w8 rest) (hC : xm_C E d false y (xm_r a :: as) h (.inr x, h')) (ht : xm_hd j pc x.2 = some t) (k : xm_G E d true j t lv [xm_r x.1] h' R) : xm_G E d true j pc lv (as.reverse ++ xm_r a :: rest) h R := by
  have hl : tb_np y = as.reverse.length := by rw [List.length_reverse, hn]
  refine go_thr (q := (y, xm_r a :: as, rest)) hd (Or.inl rfl) ?_ hC ht k
  simp only [xm_ex, hm, xm_pops]
  rw [hl, List.take_left, List.drop_left, List.reverse_reverse]
  simp only []
  rw [if_pos ⟨hok, hk, h8⟩]
theorem go_ir {v : Int32} (hd : decode (tb_cd j) pc = .ok (.ireturn, 1)) (hr : tb_rt j = 1 ∨ (tb_rt j = 2 ∧ (v = 0 ∨ v = 1))) : xm_G E d md j pc lv [xm_i v] h (.inl (some (xm_i v)), h) :=
  go_out hd (Or.inl rfl) (by simp only [xm_ex]; rw [if_pos hr])
theorem go_lr {v : Int64} (hd : decode (tb_cd j) pc = .ok (.lreturn, 1)) (hr : tb_rt j = 3) : xm_G E d md j pc lv [xm_l v] h (.inl (some (xm_l v)), h) :=
  go_out hd (Or.inl rfl) (by simp only [xm_ex]; rw [if_pos hr])
theorem go_vr (hd : decode (tb_cd j) pc = .ok (.return_, 1)) (hr : tb_rt j = 0) : xm_G E d md j pc lv [] h (.inl none, h) :=
  go_out hd (Or.inl rfl) (by simp only [xm_ex]; rw [if_pos ⟨hr, trivial⟩])
theorem go_ts {dflt lo hi off : Int} {offs : Array Int} {len t : Nat} {x : Int32} (hd : decode (tb_cd j) pc = .ok (.tableswitch dflt lo hi offs, len)) (ho : (if x.toInt < lo ∨ hi < x.toInt then some dflt else offs[(x.toInt - lo).toNat]?) = some off) (ht : (pc : Int) + off = (t : Int)) (k : xm_G E d md j t lv st h R) : xm_G E d md j pc lv (xm_i x :: st) h R :=
  go_step (q := (t, lv, st, h)) hd (Or.inr rfl) (by simp only [xm_ex]; rw [ho]; simp only [go_jmp ht]) k
end GO
