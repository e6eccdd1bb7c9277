/-! More rows: one form an instruction. -/
section GP
variable {E : xm_E} {d : Nat} {md : Bool} {j pc : Nat} {lv : xm_L} {st : List xm_V} {h : xm_H} {R : xm_O}
theorem gp_icst {n : Int} {v : Int32} (hd : decode (tb_cd j) pc = .ok (.iconst n, 1)) (hv : Int32.ofInt n = v) (k : xm_G E d md j (pc + 1) lv (xm_i v :: st) h R) : xm_G E d md j pc lv st h R := by
  subst hv
  exact go_step (q := (pc + 1, lv, xm_i (Int32.ofInt n) :: st, h)) hd (Or.inl rfl) rfl k
theorem gp_bip {n : Int} {v : Int32} (hd : decode (tb_cd j) pc = .ok (.bipush n, 2)) (hv : (Int8.ofInt n).toInt32 = v) (k : xm_G E d md j (pc + 2) lv (xm_i v :: st) h R) : xm_G E d md j pc lv st h R := by
  subst hv
  exact go_step (q := (pc + 2, lv, xm_i ((Int8.ofInt n).toInt32) :: st, h)) hd (Or.inl rfl) rfl k
theorem gp_sip {n : Int} {v : Int32} (hd : decode (tb_cd j) pc = .ok (.sipush n, 3)) (hv : (Int16.ofInt n).toInt32 = v) (k : xm_G E d md j (pc + 3) lv (xm_i v :: st) h R) : xm_G E d md j pc lv st h R := by
  subst hv
  exact go_step (q := (pc + 3, lv, xm_i ((Int16.ofInt n).toInt32) :: st, h)) hd (Or.inl rfl) rfl k
theorem gp_lcst {n : Fin 2} {v : Int64} (hd : decode (tb_cd j) pc = .ok (.lconst n, 1)) (hv : Int64.ofNat (n : Nat) = v) (k : xm_G E d md j (pc + 1) lv (xm_l v :: st) h R) : xm_G E d md j pc lv st h R := by
  subst hv
  exact go_step (q := (pc + 1, lv, xm_l (Int64.ofNat (n : Nat)) :: st, h)) hd (Or.inl rfl) rfl k
theorem gp_ldc {i : Nat} {v : Int32} (hd : decode (tb_cd j) pc = .ok (.ldc i, 2)) (hv : tb_k (tb_ow j) i = some v) (k : xm_G E d md j (pc + 2) lv (xm_i v :: st) h R) : xm_G E d md j pc lv st h R :=
  go_step (q := (pc + 2, lv, xm_i v :: st, h)) hd (Or.inl rfl) (by simp only [xm_ex, hv]) k
theorem gp_ldcw {i : Nat} {v : Int32} (hd : decode (tb_cd j) pc = .ok (.ldc_w i, 3)) (hv : tb_k (tb_ow j) i = some v) (k : xm_G E d md j (pc + 3) lv (xm_i v :: st) h R) : xm_G E d md j pc lv st h R :=
  go_step (q := (pc + 3, lv, xm_i v :: st, h)) hd (Or.inl rfl) (by simp only [xm_ex, hv]) k
theorem gp_ldc2 {i : Nat} {v : Int64} (hd : decode (tb_cd j) pc = .ok (.ldc2_w i, 3)) (hv : tb_kl (tb_ow j) i = some v) (k : xm_G E d md j (pc + 3) lv (xm_l v :: st) h R) : xm_G E d md j pc lv st h R :=
  go_step (q := (pc + 3, lv, xm_l v :: st, h)) hd (Or.inl rfl) (by simp only [xm_ex, hv]) k
theorem gp_ild {i : Nat} {x : Int32} (hd : decode (tb_cd j) pc = .ok (.iload i, 2)) (hl : xm_ld lv i = some (xm_i x)) (k : xm_G E d md j (pc + 2) lv (xm_i x :: st) h R) : xm_G E d md j pc lv st h R :=
  go_step (q := (pc + 2, lv, xm_i x :: st, h)) hd (Or.inl rfl) (by simp only [xm_ex, xm_ld1, hl]) k
theorem gp_ist {i : Nat} {x : Int32} {lv' : xm_L} (hd : decode (tb_cd j) pc = .ok (.istore i, 2)) (hi : i < tb_ml j) (hs : xm_st1 lv i (xm_i x) = lv') (k : xm_G E d md j (pc + 2) lv' st h R) : xm_G E d md j pc lv (xm_i x :: st) h R := by
  subst hs
  exact go_step (q := (pc + 2, xm_st1 lv i (xm_i x), st, h)) hd (Or.inl rfl) (by simp only [xm_ex, xm_sto]; rw [if_pos hi]) k
theorem gp_ild_n {i : Fin 4} {x : Int32} (hd : decode (tb_cd j) pc = .ok (.iload_n i, 1)) (hl : xm_ld lv (i : Nat) = some (xm_i x)) (k : xm_G E d md j (pc + 1) lv (xm_i x :: st) h R) : xm_G E d md j pc lv st h R :=
  go_step (q := (pc + 1, lv, xm_i x :: st, h)) hd (Or.inl rfl) (by simp only [xm_ex, xm_ld1, hl]) k
theorem gp_ist_n {i : Fin 4} {x : Int32} {lv' : xm_L} (hd : decode (tb_cd j) pc = .ok (.istore_n i, 1)) (hi : (i : Nat) < tb_ml j) (hs : xm_st1 lv (i : Nat) (xm_i x) = lv') (k : xm_G E d md j (pc + 1) lv' st h R) : xm_G E d md j pc lv (xm_i x :: st) h R := by
  subst hs
  exact go_step (q := (pc + 1, xm_st1 lv (i : Nat) (xm_i x), st, h)) hd (Or.inl rfl) (by simp only [xm_ex, xm_sto]; rw [if_pos hi]) k
theorem gp_lld {i : Nat} {x : Int64} (hd : decode (tb_cd j) pc = .ok (.lload i, 2)) (hl : xm_ld lv i = some (xm_l x)) (k : xm_G E d md j (pc + 2) lv (xm_l x :: st) h R) : xm_G E d md j pc lv st h R :=
  go_step (q := (pc + 2, lv, xm_l x :: st, h)) hd (Or.inl rfl) (by simp only [xm_ex, xm_ld1, hl]) k
theorem gp_lst {i : Nat} {x : Int64} {lv' : xm_L} (hd : decode (tb_cd j) pc = .ok (.lstore i, 2)) (hi : i + 1 < tb_ml j) (hs : xm_st2 lv i (xm_l x) = lv') (k : xm_G E d md j (pc + 2) lv' st h R) : xm_G E d md j pc lv (xm_l x :: st) h R := by
  subst hs
  exact go_step (q := (pc + 2, xm_st2 lv i (xm_l x), st, h)) hd (Or.inl rfl) (by simp only [xm_ex, xm_sto]; rw [if_pos hi]) k
theorem gp_lld_n {i : Fin 4} {x : Int64} (hd : decode (tb_cd j) pc = .ok (.lload_n i, 1)) (hl : xm_ld lv (i : Nat) = some (xm_l x)) (k : xm_G E d md j (pc + 1) lv (xm_l x :: st) h R) : xm_G E d md j pc lv st h R :=
  go_step (q := (pc + 1, lv, xm_l x :: st, h)) hd (Or.inl rfl) (by simp only [xm_ex, xm_ld1, hl]) k
theorem gp_lst_n {i : Fin 4} {x : Int64} {lv' : xm_L} (hd : decode (tb_cd j) pc = .ok (.lstore_n i, 1)) (hi : (i : Nat) + 1 < tb_ml j) (hs : xm_st2 lv (i : Nat) (xm_l x) = lv') (k : xm_G E d md j (pc + 1) lv' st h R) : xm_G E d md j pc lv (xm_l x :: st) h R := by
  subst hs
  exact go_step (q := (pc + 1, xm_st2 lv (i : Nat) (xm_l x), st, h)) hd (Or.inl rfl) (by simp only [xm_ex, xm_sto]; rw [if_pos hi]) k
theorem gp_ald {i : Nat} {x : xm_I} (hd : decode (tb_cd j) pc = .ok (.aload i, 2)) (hl : xm_ld lv i = some (xm_r x)) (k : xm_G E d md j (pc + 2) lv (xm_r x :: st) h R) : xm_G E d md j pc lv st h R :=
  go_step (q := (pc + 2, lv, xm_r x :: st, h)) hd (Or.inl rfl) (by simp only [xm_ex, xm_ld1, hl]) k
theorem gp_ast {i : Nat} {x : xm_I} {lv' : xm_L} (hd : decode (tb_cd j) pc = .ok (.astore i, 2)) (hi : i < tb_ml j) (hs : xm_st1 lv i (xm_r x) = lv') (k : xm_G E d md j (pc + 2) lv' st h R) : xm_G E d md j pc lv (xm_r x :: st) h R := by
  subst hs
  exact go_step (q := (pc + 2, xm_st1 lv i (xm_r x), st, h)) hd (Or.inl rfl) (by simp only [xm_ex, xm_sto]; rw [if_pos hi]) k
theorem gp_ald_n {i : Fin 4} {x : xm_I} (hd : decode (tb_cd j) pc = .ok (.aload_n i, 1)) (hl : xm_ld lv (i : Nat) = some (xm_r x)) (k : xm_G E d md j (pc + 1) lv (xm_r x :: st) h R) : xm_G E d md j pc lv st h R :=
  go_step (q := (pc + 1, lv, xm_r x :: st, h)) hd (Or.inl rfl) (by simp only [xm_ex, xm_ld1, hl]) k
theorem gp_ast_n {i : Fin 4} {x : xm_I} {lv' : xm_L} (hd : decode (tb_cd j) pc = .ok (.astore_n i, 1)) (hi : (i : Nat) < tb_ml j) (hs : xm_st1 lv (i : Nat) (xm_r x) = lv') (k : xm_G E d md j (pc + 1) lv' st h R) : xm_G E d md j pc lv (xm_r x :: st) h R := by
  subst hs
  exact go_step (q := (pc + 1, xm_st1 lv (i : Nat) (xm_r x), st, h)) hd (Or.inl rfl) (by simp only [xm_ex, xm_sto]; rw [if_pos hi]) k
theorem gp_iinc {i : Nat} {n : Int} {x y : Int32} {lv' : xm_L} (hd : decode (tb_cd j) pc = .ok (.iinc i n, 3)) (hi : i < tb_ml j) (hl : xm_ld lv i = some (xm_i x)) (hy : x + Int32.ofInt n = y) (hs : xm_st1 lv i (xm_i y) = lv') (k : xm_G E d md j (pc + 3) lv' st h R) : xm_G E d md j pc lv st h R := by
  subst hs; subst hy
  exact go_step (q := (pc + 3, xm_st1 lv i (xm_i (x + Int32.ofInt n)), st, h)) hd (Or.inl rfl) (by simp only [xm_ex, hl]; rw [if_pos hi]) k
theorem gp_iadd {x y : Int32} (hd : decode (tb_cd j) pc = .ok (.iadd, 1)) (k : xm_G E d md j (pc + 1) lv (xm_i (x + y) :: st) h R) : xm_G E d md j pc lv (xm_i y :: xm_i x :: st) h R :=
  go_step (q := (pc + 1, lv, xm_i (x + y) :: st, h)) hd (Or.inl rfl) rfl k
theorem gp_isub {x y : Int32} (hd : decode (tb_cd j) pc = .ok (.isub, 1)) (k : xm_G E d md j (pc + 1) lv (xm_i (x - y) :: st) h R) : xm_G E d md j pc lv (xm_i y :: xm_i x :: st) h R :=
  go_step (q := (pc + 1, lv, xm_i (x - y) :: st, h)) hd (Or.inl rfl) rfl k
theorem gp_imul {x y : Int32} (hd : decode (tb_cd j) pc = .ok (.imul, 1)) (k : xm_G E d md j (pc + 1) lv (xm_i (x * y) :: st) h R) : xm_G E d md j pc lv (xm_i y :: xm_i x :: st) h R :=
  go_step (q := (pc + 1, lv, xm_i (x * y) :: st, h)) hd (Or.inl rfl) rfl k
theorem gp_iand {x y : Int32} (hd : decode (tb_cd j) pc = .ok (.iand, 1)) (k : xm_G E d md j (pc + 1) lv (xm_i (x &&& y) :: st) h R) : xm_G E d md j pc lv (xm_i y :: xm_i x :: st) h R :=
  go_step (q := (pc + 1, lv, xm_i (x &&& y) :: st, h)) hd (Or.inl rfl) rfl k
theorem gp_ior {x y : Int32} (hd : decode (tb_cd j) pc = .ok (.ior, 1)) (k : xm_G E d md j (pc + 1) lv (xm_i (x ||| y) :: st) h R) : xm_G E d md j pc lv (xm_i y :: xm_i x :: st) h R :=
  go_step (q := (pc + 1, lv, xm_i (x ||| y) :: st, h)) hd (Or.inl rfl) rfl k
theorem gp_ixor {x y : Int32} (hd : decode (tb_cd j) pc = .ok (.ixor, 1)) (k : xm_G E d md j (pc + 1) lv (xm_i (x ^^^ y) :: st) h R) : xm_G E d md j pc lv (xm_i y :: xm_i x :: st) h R :=
  go_step (q := (pc + 1, lv, xm_i (x ^^^ y) :: st, h)) hd (Or.inl rfl) rfl k
theorem gp_ishl {x y : Int32} (hd : decode (tb_cd j) pc = .ok (.ishl, 1)) (k : xm_G E d md j (pc + 1) lv (xm_i (x <<< (y &&& 31)) :: st) h R) : xm_G E d md j pc lv (xm_i y :: xm_i x :: st) h R :=
  go_step (q := (pc + 1, lv, xm_i (x <<< (y &&& 31)) :: st, h)) hd (Or.inl rfl) rfl k
theorem gp_ishr {x y : Int32} (hd : decode (tb_cd j) pc = .ok (.ishr, 1)) (k : xm_G E d md j (pc + 1) lv (xm_i (x >>> (y &&& 31)) :: st) h R) : xm_G E d md j pc lv (xm_i y :: xm_i x :: st) h R :=
  go_step (q := (pc + 1, lv, xm_i (x >>> (y &&& 31)) :: st, h)) hd (Or.inl rfl) rfl k
theorem gp_iushr {x y : Int32} (hd : decode (tb_cd j) pc = .ok (.iushr, 1)) (k : xm_G E d md j (pc + 1) lv (xm_i ((x.toUInt32 >>> (y.toUInt32 &&& Int32.toUInt32 31)).toInt32) :: st) h R) : xm_G E d md j pc lv (xm_i y :: xm_i x :: st) h R :=
  go_step (q := (pc + 1, lv, xm_i ((x.toUInt32 >>> (y.toUInt32 &&& Int32.toUInt32 31)).toInt32) :: st, h)) hd (Or.inl rfl) rfl k
theorem gp_idiv {x y : Int32} (hd : decode (tb_cd j) pc = .ok (.idiv, 1)) (hy : ¬ y = 0) (k : xm_G E d md j (pc + 1) lv (xm_i (x / y) :: st) h R) : xm_G E d md j pc lv (xm_i y :: xm_i x :: st) h R :=
  go_step (q := (pc + 1, lv, xm_i (x / y) :: st, h)) hd (Or.inl rfl) (by simp only [xm_ex]; rw [if_neg hy]) k
theorem gp_irem {x y : Int32} (hd : decode (tb_cd j) pc = .ok (.irem, 1)) (hy : ¬ y = 0) (k : xm_G E d md j (pc + 1) lv (xm_i (x - x / y * y) :: st) h R) : xm_G E d md j pc lv (xm_i y :: xm_i x :: st) h R :=
  go_step (q := (pc + 1, lv, xm_i (x - x / y * y) :: st, h)) hd (Or.inl rfl) (by simp only [xm_ex]; rw [if_neg hy]) k
theorem gp_ineg {x : Int32} (hd : decode (tb_cd j) pc = .ok (.ineg, 1)) (k : xm_G E d md j (pc + 1) lv (xm_i (-x) :: st) h R) : xm_G E d md j pc lv (xm_i x :: st) h R :=
  go_step (q := (pc + 1, lv, xm_i (-x) :: st, h)) hd (Or.inl rfl) rfl k
theorem gp_ladd {x y : Int64} (hd : decode (tb_cd j) pc = .ok (.ladd, 1)) (k : xm_G E d md j (pc + 1) lv (xm_l (x + y) :: st) h R) : xm_G E d md j pc lv (xm_l y :: xm_l x :: st) h R :=
  go_step (q := (pc + 1, lv, xm_l (x + y) :: st, h)) hd (Or.inl rfl) rfl k
theorem gp_lsub {x y : Int64} (hd : decode (tb_cd j) pc = .ok (.lsub, 1)) (k : xm_G E d md j (pc + 1) lv (xm_l (x - y) :: st) h R) : xm_G E d md j pc lv (xm_l y :: xm_l x :: st) h R :=
  go_step (q := (pc + 1, lv, xm_l (x - y) :: st, h)) hd (Or.inl rfl) rfl k
theorem gp_lmul {x y : Int64} (hd : decode (tb_cd j) pc = .ok (.lmul, 1)) (k : xm_G E d md j (pc + 1) lv (xm_l (x * y) :: st) h R) : xm_G E d md j pc lv (xm_l y :: xm_l x :: st) h R :=
  go_step (q := (pc + 1, lv, xm_l (x * y) :: st, h)) hd (Or.inl rfl) rfl k
theorem gp_land {x y : Int64} (hd : decode (tb_cd j) pc = .ok (.land, 1)) (k : xm_G E d md j (pc + 1) lv (xm_l (x &&& y) :: st) h R) : xm_G E d md j pc lv (xm_l y :: xm_l x :: st) h R :=
  go_step (q := (pc + 1, lv, xm_l (x &&& y) :: st, h)) hd (Or.inl rfl) rfl k
theorem gp_lor {x y : Int64} (hd : decode (tb_cd j) pc = .ok (.lor, 1)) (k : xm_G E d md j (pc + 1) lv (xm_l (x ||| y) :: st) h R) : xm_G E d md j pc lv (xm_l y :: xm_l x :: st) h R :=
  go_step (q := (pc + 1, lv, xm_l (x ||| y) :: st, h)) hd (Or.inl rfl) rfl k
theorem gp_lxor {x y : Int64} (hd : decode (tb_cd j) pc = .ok (.lxor, 1)) (k : xm_G E d md j (pc + 1) lv (xm_l (x ^^^ y) :: st) h R) : xm_G E d md j pc lv (xm_l y :: xm_l x :: st) h R :=
  go_step (q := (pc + 1, lv, xm_l (x ^^^ y) :: st, h)) hd (Or.inl rfl) rfl k
theorem gp_lshl {x : Int64} {y : Int32} (hd : decode (tb_cd j) pc = .ok (.lshl, 1)) (k : xm_G E d md j (pc + 1) lv (xm_l (x <<< (y.toInt64 &&& 63)) :: st) h R) : xm_G E d md j pc lv (xm_i y :: xm_l x :: st) h R :=
  go_step (q := (pc + 1, lv, xm_l (x <<< (y.toInt64 &&& 63)) :: st, h)) hd (Or.inl rfl) rfl k
theorem gp_lshr {x : Int64} {y : Int32} (hd : decode (tb_cd j) pc = .ok (.lshr, 1)) (k : xm_G E d md j (pc + 1) lv (xm_l (x >>> (y.toInt64 &&& 63)) :: st) h R) : xm_G E d md j pc lv (xm_i y :: xm_l x :: st) h R :=
  go_step (q := (pc + 1, lv, xm_l (x >>> (y.toInt64 &&& 63)) :: st, h)) hd (Or.inl rfl) rfl k
theorem gp_lushr {x : Int64} {y : Int32} (hd : decode (tb_cd j) pc = .ok (.lushr, 1)) (k : xm_G E d md j (pc + 1) lv (xm_l ((x.toUInt64 >>> (y.toInt64.toUInt64 &&& Int64.toUInt64 63)).toInt64) :: st) h R) : xm_G E d md j pc lv (xm_i y :: xm_l x :: st) h R :=
  go_step (q := (pc + 1, lv, xm_l ((x.toUInt64 >>> (y.toInt64.toUInt64 &&& Int64.toUInt64 63)).toInt64) :: st, h)) hd (Or.inl rfl) rfl k
theorem gp_i2l {x : Int32} (hd : decode (tb_cd j) pc = .ok (.i2l, 1)) (k : xm_G E d md j (pc + 1) lv (xm_l x.toInt64 :: st) h R) : xm_G E d md j pc lv (xm_i x :: st) h R :=
  go_step (q := (pc + 1, lv, xm_l x.toInt64 :: st, h)) hd (Or.inl rfl) rfl k
theorem gp_l2i {x : Int64} (hd : decode (tb_cd j) pc = .ok (.l2i, 1)) (k : xm_G E d md j (pc + 1) lv (xm_i x.toInt32 :: st) h R) : xm_G E d md j pc lv (xm_l x :: st) h R :=
  go_step (q := (pc + 1, lv, xm_i x.toInt32 :: st, h)) hd (Or.inl rfl) rfl k
theorem gp_lcmp {x y : Int64} (hd : decode (tb_cd j) pc = .ok (.lcmp, 1)) (k : xm_G E d md j (pc + 1) lv (xm_i (lg_cmp x y) :: st) h R) : xm_G E d md j pc lv (xm_l y :: xm_l x :: st) h R :=
  go_step (q := (pc + 1, lv, xm_i (lg_cmp x y) :: st, h)) hd (Or.inl rfl) rfl k
theorem gp_dup {v : xm_V} (hd : decode (tb_cd j) pc = .ok (.dup, 1)) (hv : xm_cat v = 1) (k : xm_G E d md j (pc + 1) lv (v :: v :: st) h R) : xm_G E d md j pc lv (v :: st) h R :=
  go_step (q := (pc + 1, lv, v :: v :: st, h)) hd (Or.inl rfl) (by simp only [xm_ex]; rw [if_pos hv]) k
theorem gp_pop {v : xm_V} (hd : decode (tb_cd j) pc = .ok (.pop, 1)) (hv : xm_cat v = 1) (k : xm_G E d md j (pc + 1) lv st h R) : xm_G E d md j pc lv (v :: st) h R :=
  go_step (q := (pc + 1, lv, st, h)) hd (Or.inl rfl) (by simp only [xm_ex]; rw [if_pos hv]) k
theorem gp_dupx {v w : xm_V} (hd : decode (tb_cd j) pc = .ok (.dup_x1, 1)) (hv : xm_cat v = 1) (hw : xm_cat w = 1) (k : xm_G E d md j (pc + 1) lv (v :: w :: v :: st) h R) : xm_G E d md j pc lv (v :: w :: st) h R :=
  go_step (q := (pc + 1, lv, v :: w :: v :: st, h)) hd (Or.inl rfl) (by simp only [xm_ex]; rw [if_pos ⟨hv, hw⟩]) k
theorem gp_dup2 {v w : xm_V} (hd : decode (tb_cd j) pc = .ok (.dup2, 1)) (hv : xm_cat v = 1) (hw : xm_cat w = 1) (k : xm_G E d md j (pc + 1) lv (v :: w :: v :: w :: st) h R) : xm_G E d md j pc lv (v :: w :: st) h R :=
  go_step (q := (pc + 1, lv, v :: w :: v :: w :: st, h)) hd (Or.inl rfl) (by simp only [xm_ex]; rw [if_pos ⟨hv, hw⟩]) k
theorem gp_ifeq {off : Int} {t : Nat} {x : Int32} (hd : decode (tb_cd j) pc = .ok (.ifCond .eq off, 3)) (ht : (pc : Int) + off = (t : Int)) (k1 : x = 0 → xm_G E d md j t lv st h R) (k2 : ¬ x = 0 → xm_G E d md j (pc + 3) lv st h R) : xm_G E d md j pc lv (xm_i x :: st) h R :=
  go_if hd ht (fun z => k1 (of_decide_eq_true z)) (fun z => k2 (of_decide_eq_false z))
theorem gp_iceq {off : Int} {t : Nat} {x y : Int32} (hd : decode (tb_cd j) pc = .ok (.if_icmp .eq off, 3)) (ht : (pc : Int) + off = (t : Int)) (k1 : x = y → xm_G E d md j t lv st h R) (k2 : ¬ x = y → xm_G E d md j (pc + 3) lv st h R) : xm_G E d md j pc lv (xm_i y :: xm_i x :: st) h R :=
  go_ic hd ht (fun z => k1 (of_decide_eq_true z)) (fun z => k2 (of_decide_eq_false z))
theorem gp_ifne {off : Int} {t : Nat} {x : Int32} (hd : decode (tb_cd j) pc = .ok (.ifCond .ne off, 3)) (ht : (pc : Int) + off = (t : Int)) (k1 : ¬ x = 0 → xm_G E d md j t lv st h R) (k2 : x = 0 → xm_G E d md j (pc + 3) lv st h R) : xm_G E d md j pc lv (xm_i x :: st) h R :=
  go_if hd ht (fun z => k1 (of_decide_eq_true z)) (fun z => k2 (Decidable.not_not.mp (of_decide_eq_false z)))
theorem gp_icne {off : Int} {t : Nat} {x y : Int32} (hd : decode (tb_cd j) pc = .ok (.if_icmp .ne off, 3)) (ht : (pc : Int) + off = (t : Int)) (k1 : ¬ x = y → xm_G E d md j t lv st h R) (k2 : x = y → xm_G E d md j (pc + 3) lv st h R) : xm_G E d md j pc lv (xm_i y :: xm_i x :: st) h R :=
  go_ic hd ht (fun z => k1 (of_decide_eq_true z)) (fun z => k2 (Decidable.not_not.mp (of_decide_eq_false z)))
theorem gp_iflt {off : Int} {t : Nat} {x : Int32} (hd : decode (tb_cd j) pc = .ok (.ifCond .lt off, 3)) (ht : (pc : Int) + off = (t : Int)) (k1 : x < 0 → xm_G E d md j t lv st h R) (k2 : ¬ x < 0 → xm_G E d md j (pc + 3) lv st h R) : xm_G E d md j pc lv (xm_i x :: st) h R :=
  go_if hd ht (fun z => k1 (of_decide_eq_true z)) (fun z => k2 (of_decide_eq_false z))
theorem gp_iclt {off : Int} {t : Nat} {x y : Int32} (hd : decode (tb_cd j) pc = .ok (.if_icmp .lt off, 3)) (ht : (pc : Int) + off = (t : Int)) (k1 : x < y → xm_G E d md j t lv st h R) (k2 : ¬ x < y → xm_G E d md j (pc + 3) lv st h R) : xm_G E d md j pc lv (xm_i y :: xm_i x :: st) h R :=
  go_ic hd ht (fun z => k1 (of_decide_eq_true z)) (fun z => k2 (of_decide_eq_false z))
theorem gp_ifge {off : Int} {t : Nat} {x : Int32} (hd : decode (tb_cd j) pc = .ok (.ifCond .ge off, 3)) (ht : (pc : Int) + off = (t : Int)) (k1 : 0 ≤ x → xm_G E d md j t lv st h R) (k2 : ¬ 0 ≤ x → xm_G E d md j (pc + 3) lv st h R) : xm_G E d md j pc lv (xm_i x :: st) h R :=
  go_if hd ht (fun z => k1 (of_decide_eq_true z)) (fun z => k2 (of_decide_eq_false z))
theorem gp_icge {off : Int} {t : Nat} {x y : Int32} (hd : decode (tb_cd j) pc = .ok (.if_icmp .ge off, 3)) (ht : (pc : Int) + off = (t : Int)) (k1 : y ≤ x → xm_G E d md j t lv st h R) (k2 : ¬ y ≤ x → xm_G E d md j (pc + 3) lv st h R) : xm_G E d md j pc lv (xm_i y :: xm_i x :: st) h R :=
  go_ic hd ht (fun z => k1 (of_decide_eq_true z)) (fun z => k2 (of_decide_eq_false z))
theorem gp_ifgt {off : Int} {t : Nat} {x : Int32} (hd : decode (tb_cd j) pc = .ok (.ifCond .gt off, 3)) (ht : (pc : Int) + off = (t : Int)) (k1 : 0 < x → xm_G E d md j t lv st h R) (k2 : ¬ 0 < x → xm_G E d md j (pc + 3) lv st h R) : xm_G E d md j pc lv (xm_i x :: st) h R :=
  go_if hd ht (fun z => k1 (of_decide_eq_true z)) (fun z => k2 (of_decide_eq_false z))
theorem gp_icgt {off : Int} {t : Nat} {x y : Int32} (hd : decode (tb_cd j) pc = .ok (.if_icmp .gt off, 3)) (ht : (pc : Int) + off = (t : Int)) (k1 : y < x → xm_G E d md j t lv st h R) (k2 : ¬ y < x → xm_G E d md j (pc + 3) lv st h R) : xm_G E d md j pc lv (xm_i y :: xm_i x :: st) h R :=
  go_ic hd ht (fun z => k1 (of_decide_eq_true z)) (fun z => k2 (of_decide_eq_false z))
theorem gp_ifle {off : Int} {t : Nat} {x : Int32} (hd : decode (tb_cd j) pc = .ok (.ifCond .le off, 3)) (ht : (pc : Int) + off = (t : Int)) (k1 : x ≤ 0 → xm_G E d md j t lv st h R) (k2 : ¬ x ≤ 0 → xm_G E d md j (pc + 3) lv st h R) : xm_G E d md j pc lv (xm_i x :: st) h R :=
  go_if hd ht (fun z => k1 (of_decide_eq_true z)) (fun z => k2 (of_decide_eq_false z))
theorem gp_icle {off : Int} {t : Nat} {x y : Int32} (hd : decode (tb_cd j) pc = .ok (.if_icmp .le off, 3)) (ht : (pc : Int) + off = (t : Int)) (k1 : x ≤ y → xm_G E d md j t lv st h R) (k2 : ¬ x ≤ y → xm_G E d md j (pc + 3) lv st h R) : xm_G E d md j pc lv (xm_i y :: xm_i x :: st) h R :=
  go_ic hd ht (fun z => k1 (of_decide_eq_true z)) (fun z => k2 (of_decide_eq_false z))
end GP
