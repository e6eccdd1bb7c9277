/-! Array rows with an index that is a small number. -/
section GQ
variable {E : xm_E} {d : Nat} {md : Bool} {j pc : Nat} {lv : xm_L} {st : List xm_V} {h : xm_H} {R : xm_O}
theorem gq_in {a : xm_I} {x : Int32} {i n : Nat} (hn : (E.1 a).2 = n) (hx : x = nI i) (hi : i < n) (h9 : n < 100000) : xm_in x (E.1 a).2 := by
  rw [hn, hx]
  exact nI_in hi (by omega)
theorem gq_cl {x : Int32} {i n : Nat} (hx : x = nI i) (hi : i < n) (h9 : n < 100000) : x.toNatClampNeg = i := by
  rw [hx]
  exact nI_clamp (by omega)
theorem gq_ild {a : xm_I} {x : Int32} {i n : Nat} (hd : decode (tb_cd j) pc = .ok (.iaload, 1)) (hok : xm_ok E h a 100 ∨ (E.1 a).1 = 110) (hn : (E.1 a).2 = n) (hx : x = nI i) (hi : i < n) (h9 : n < 100000) (k : xm_G E d md j (pc + 1) lv (xm_i (h.2.1 a i) :: st) h R) : xm_G E d md j pc lv (xm_i x :: xm_r a :: st) h R :=
  go_ild hd hok (gq_in hn hx hi h9) (by rw [gq_cl hx hi h9]; exact k)
theorem gq_bld {a : xm_I} {x : Int32} {i n : Nat} (hd : decode (tb_cd j) pc = .ok (.baload, 1)) (hok : xm_ok E h a 102) (hn : (E.1 a).2 = n) (hx : x = nI i) (hi : i < n) (h9 : n < 100000) (k : xm_G E d md j (pc + 1) lv (xm_i (h.2.1 a i) :: st) h R) : xm_G E d md j pc lv (xm_i x :: xm_r a :: st) h R :=
  go_bld hd hok (gq_in hn hx hi h9) (by rw [gq_cl hx hi h9]; exact k)
theorem gq_lld {a : xm_I} {x : Int32} {i n : Nat} (hd : decode (tb_cd j) pc = .ok (.laload, 1)) (hok : xm_ok E h a 101) (hn : (E.1 a).2 = n) (hx : x = nI i) (hi : i < n) (h9 : n < 100000) (k : xm_G E d md j (pc + 1) lv (xm_l (h.2.2.1 a i) :: st) h R) : xm_G E d md j pc lv (xm_i x :: xm_r a :: st) h R :=
  go_lld hd hok (gq_in hn hx hi h9) (by rw [gq_cl hx hi h9]; exact k)
theorem gq_ald {a b : xm_I} {x : Int32} {i n : Nat} (hd : decode (tb_cd j) pc = .ok (.aaload, 1)) (hk : xm_kr (E.1 a).1) (hal : E.2.1 a < h.1.1) (hn : (E.1 a).2 = n) (hx : x = nI i) (hi : i < n) (h9 : n < 100000) (hb : h.2.2.2 a i = some b) (k : xm_G E d md j (pc + 1) lv (xm_r b :: st) h R) : xm_G E d md j pc lv (xm_i x :: xm_r a :: st) h R :=
  go_ald hd hk hal (gq_in hn hx hi h9) (by rw [gq_cl hx hi h9]; exact hb) k
theorem gq_ist {a : xm_I} {x v : Int32} {i n : Nat} (hd : decode (tb_cd j) pc = .ok (.iastore, 1)) (hok : xm_ok E h a 100) (hn : (E.1 a).2 = n) (hx : x = nI i) (hi : i < n) (h9 : n < 100000) (k : xm_G E d true j (pc + 1) lv st (xm_ui h a i v) R) : xm_G E d true j pc lv (xm_i v :: xm_i x :: xm_r a :: st) h R :=
  go_ist hd hok (gq_in hn hx hi h9) (by rw [gq_cl hx hi h9]; exact k)
theorem gq_bst {a : xm_I} {x v : Int32} {i n : Nat} (hd : decode (tb_cd j) pc = .ok (.bastore, 1)) (hok : xm_ok E h a 102) (hn : (E.1 a).2 = n) (hx : x = nI i) (hi : i < n) (h9 : n < 100000) (hv : v = 0 ∨ v = 1) (k : xm_G E d true j (pc + 1) lv st (xm_ui h a i v) R) : xm_G E d true j pc lv (xm_i v :: xm_i x :: xm_r a :: st) h R :=
  go_bst hd hok (gq_in hn hx hi h9) hv (by rw [gq_cl hx hi h9]; exact k)
theorem gq_lst {a : xm_I} {x : Int32} {v : Int64} {i n : Nat} (hd : decode (tb_cd j) pc = .ok (.lastore, 1)) (hok : xm_ok E h a 101) (hn : (E.1 a).2 = n) (hx : x = nI i) (hi : i < n) (h9 : n < 100000) (k : xm_G E d true j (pc + 1) lv st (xm_ul h a i v) R) : xm_G E d true j pc lv (xm_l v :: xm_i x :: xm_r a :: st) h R :=
  go_lst hd hok (gq_in hn hx hi h9) (by rw [gq_cl hx hi h9]; exact k)
theorem gq_ast {a v : xm_I} {x : Int32} {i n : Nat} (hd : decode (tb_cd j) pc = .ok (.aastore, 1)) (h1 : (E.1 v).1 < tb_nc) (h2 : tb_ra (E.1 v).1 = true) (h3 : E.2.1 v < h.1.1) (hok : xm_ok E h a (120 + (E.1 v).1)) (hn : (E.1 a).2 = n) (hx : x = nI i) (hi : i < n) (h9 : n < 100000) (k : xm_G E d true j (pc + 1) lv st (xm_ur h a i (some v)) R) : xm_G E d true j pc lv (xm_r v :: xm_i x :: xm_r a :: st) h R :=
  go_ast hd h1 h2 h3 hok (gq_in hn hx hi h9) (by rw [gq_cl hx hi h9]; exact k)
theorem gq_len {a : xm_I} {n : Nat} (hd : decode (tb_cd j) pc = .ok (.arraylength, 1)) (hok : (E.1 a).1 = 110 ∨ (E.2.1 a < h.1.1 ∧ ((E.1 a).1 = 100 ∨ (E.1 a).1 = 101 ∨ (E.1 a).1 = 102 ∨ xm_kr (E.1 a).1))) (hn : (E.1 a).2 = n) (k : xm_G E d md j (pc + 1) lv (xm_i (nI n) :: st) h R) : xm_G E d md j pc lv (xm_r a :: st) h R := by
  subst hn
  exact go_len hd hok k
theorem gq_na {t : ArrayType} {x : Int32} {n : Nat} (hd : decode (tb_cd j) pc = .ok (.newarray t, 2)) (hx : x = nI n) (h6 : n ≤ 60000) {a : xm_I} (ha : E.2.2 h.1.1 = a) (hk : E.1 a = (xm_tag t, n)) (ht : 100 ≤ xm_tag t) (k : xm_G E d true j (pc + 2) lv (xm_r a :: st) (xm_new h n) R) : xm_G E d true j pc lv (xm_i x :: st) h R := by
  subst hx
  exact go_na hd (nI_pos (by omega)) (nI_clamp (by omega)) h6 ha hk ht k
theorem gq_an {i ci n : Nat} {x : Int32} (hd : decode (tb_cd j) pc = .ok (.anewarray i, 3)) (hc : tb_c (tb_ow j) i = some ci) (hr : tb_ra ci = true) (hx : x = nI n) (h6 : n ≤ 60000) {a : xm_I} (ha : E.2.2 h.1.1 = a) (hk : E.1 a = (120 + ci, n)) (k : xm_G E d true j (pc + 3) lv (xm_r a :: st) (xm_new h n) R) : xm_G E d true j pc lv (xm_i x :: st) h R := by
  subst hx
  exact go_an hd hc hr (nI_pos (by omega)) (nI_clamp (by omega)) h6 ha hk k
end GQ
