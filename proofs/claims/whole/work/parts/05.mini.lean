/-! A small machine over ids: what the walked methods do, as a relation. Ids are three numbers; a value is an int, a long, an id or null; a heap holds two counters (cells, slots) and what the fields and elements hold, by kind. -/
abbrev xm_I : Type := Nat × Nat × Nat
abbrev xm_V : Type := Int32 ⊕ (Int64 ⊕ Option xm_I)
abbrev xm_i (x : Int32) : xm_V := Sum.inl x
abbrev xm_l (x : Int64) : xm_V := Sum.inr (Sum.inl x)
abbrev xm_q (x : Option xm_I) : xm_V := Sum.inr (Sum.inr x)
abbrev xm_r (a : xm_I) : xm_V := Sum.inr (Sum.inr (some a))
abbrev xm_H : Type := (Nat × Nat) × (xm_I → Nat → Int32) × (xm_I → Nat → Int64) × (xm_I → Nat → Option xm_I)
abbrev xm_L : Type := List (Option xm_V)
abbrev xm_E : Type := (xm_I → Nat × Nat) × (xm_I → Nat) × (Nat → xm_I)
abbrev xm_O : Type := (Option xm_V ⊕ (xm_I × Nat)) × xm_H
abbrev xm_F : Type := Nat × xm_L × List xm_V × xm_H
abbrev xm_S : Type := xm_F ⊕ (xm_O ⊕ (Nat × List xm_V × List xm_V))
def xm_up {α : Type} (f : xm_I → Nat → α) (a : xm_I) (k : Nat) (v : α) : xm_I → Nat → α := fun b j => if b = a ∧ j = k then v else f b j
def xm_ui (h : xm_H) (a : xm_I) (k : Nat) (v : Int32) : xm_H := (h.1, xm_up h.2.1 a k v, h.2.2.1, h.2.2.2)
def xm_ul (h : xm_H) (a : xm_I) (k : Nat) (v : Int64) : xm_H := (h.1, h.2.1, xm_up h.2.2.1 a k v, h.2.2.2)
def xm_ur (h : xm_H) (a : xm_I) (k : Nat) (v : Option xm_I) : xm_H := (h.1, h.2.1, h.2.2.1, xm_up h.2.2.2 a k v)
def xm_new (h : xm_H) (n : Nat) : xm_H := ((h.1.1 + 1, h.1.2 + n), h.2)
def xm_cat (v : xm_V) : Nat := match v with
  | .inr (.inl _) => 2
  | _ => 1
def xm_ld (lv : xm_L) (i : Nat) : Option xm_V := match lv[i]? with
  | some (some v) => some v
  | _ => none
/-- a long just below the slot that is written is lost -/
def xm_cut (lv : xm_L) : Nat → xm_L
  | 0 => lv
  | k + 1 => match lv[k]? with
    | some (some (.inr (.inl _))) => lv.set k none
    | _ => lv
def xm_st1 (lv : xm_L) (i : Nat) (v : xm_V) : xm_L := (xm_cut lv i).set i (some v)
def xm_st2 (lv : xm_L) (i : Nat) (v : xm_V) : xm_L := ((xm_cut lv i).set i (some v)).set (i + 1) none
def xm_args : List xm_V → xm_L
  | [] => []
  | v :: vs => match v with
    | .inr (.inl x) => some (.inr (.inl x)) :: none :: xm_args vs
    | w => some w :: xm_args vs
def xm_ent (as : List xm_V) (n : Nat) : xm_L := xm_args as ++ List.replicate (n - (xm_args as).length) none
def xm_fv (h : xm_H) (a : xm_I) (t k : Nat) : xm_V := match t with
  | 2 => xm_l (h.2.2.1 a k)
  | 3 => xm_q (h.2.2.2 a k)
  | _ => xm_i (h.2.1 a k)
def xm_pv (h : xm_H) (a : xm_I) (t k : Nat) (v : xm_V) : Option xm_H := match t, v with
  | 0, .inl x => some (xm_ui h a k x)
  | 1, .inl x => if x = 0 ∨ x = 1 then some (xm_ui h a k x) else none
  | 2, .inr (.inl x) => some (xm_ul h a k x)
  | 3, .inr (.inr x) => some (xm_ur h a k x)
  | _, _ => none
abbrev xm_ok (E : xm_E) (h : xm_H) (a : xm_I) (t : Nat) : Prop := (E.1 a).1 = t ∧ E.2.1 a < h.1.1
abbrev xm_kr (k : Nat) : Prop := 120 ≤ k ∧ k < 120 + tb_nc ∧ tb_ra (k - 120) = true
abbrev xm_in (i : Int32) (n : Nat) : Prop := ¬ (i < 0 ∨ n ≤ i.toNatClampNeg)
abbrev xm_go (pc : Nat) (lv : xm_L) (st : List xm_V) (h : xm_H) : Option xm_S := some (.inl (pc, lv, st, h))
def xm_jmp (pc : Nat) (off : Int) : Option Nat := if 0 ≤ (pc : Int) + off then some ((pc : Int) + off).toNat else none
def xm_cnd (c : ClassFile.Cond) (x y : Int32) : Bool := match c with
  | .eq => decide (x = y)
  | .ne => decide (¬ x = y)
  | .lt => decide (x < y)
  | .ge => decide (y ≤ x)
  | .gt => decide (y < x)
  | .le => decide (x ≤ y)
/-- how long an instruction is (0: as it says itself) -/
def xm_len : Instr → Nat
  | .bipush _ | .iload _ | .lload _ | .aload _ | .istore _ | .lstore _ | .astore _ | .ldc _ | .newarray _ => 2
  | .sipush _ | .ldc_w _ | .ldc2_w _ | .iinc _ _ | .ifCond _ _ | .if_icmp _ _ | .goto _ | .getfield _ | .putfield _ | .new _ | .anewarray _ | .invokevirtual _ | .invokespecial _ | .invokestatic _ => 3
  | .tableswitch .. => 0
  | _ => 1
def xm_ld1 (pc len : Nat) (lv : xm_L) (st : List xm_V) (h : xm_H) (i k : Nat) : Option xm_S := match xm_ld lv i, k with
  | some (.inl x), 0 => xm_go (pc + len) lv (.inl x :: st) h
  | some (.inr (.inl x)), 1 => xm_go (pc + len) lv (.inr (.inl x) :: st) h
  | some (.inr (.inr (some x))), 2 => xm_go (pc + len) lv (.inr (.inr (some x)) :: st) h
  | _, _ => none
def xm_sto (j pc len : Nat) (lv : xm_L) (st : List xm_V) (h : xm_H) (i k : Nat) : Option xm_S := match st, k with
  | .inl x :: r, 0 => if i < tb_ml j then xm_go (pc + len) (xm_st1 lv i (.inl x)) r h else none
  | .inr (.inl x) :: r, 1 => if i + 1 < tb_ml j then xm_go (pc + len) (xm_st2 lv i (.inr (.inl x))) r h else none
  | .inr (.inr (some x)) :: r, 2 => if i < tb_ml j then xm_go (pc + len) (xm_st1 lv i (.inr (.inr (some x)))) r h else none
  | _, _ => none
def xm_ii (pc : Nat) (lv : xm_L) (st : List xm_V) (h : xm_H) (f : Int32 → Int32 → Int32) : Option xm_S := match st with
  | .inl y :: .inl x :: r => xm_go (pc + 1) lv (.inl (f x y) :: r) h
  | _ => none
def xm_ll (pc : Nat) (lv : xm_L) (st : List xm_V) (h : xm_H) (f : Int64 → Int64 → Int64) : Option xm_S := match st with
  | .inr (.inl y) :: .inr (.inl x) :: r => xm_go (pc + 1) lv (.inr (.inl (f x y)) :: r) h
  | _ => none
def xm_li (pc : Nat) (lv : xm_L) (st : List xm_V) (h : xm_H) (f : Int64 → Int32 → Int64) : Option xm_S := match st with
  | .inl y :: .inr (.inl x) :: r => xm_go (pc + 1) lv (.inr (.inl (f x y)) :: r) h
  | _ => none
def xm_br (pc : Nat) (lv : xm_L) (st : List xm_V) (h : xm_H) (b : Bool) (off : Int) : Option xm_S := match xm_jmp pc off with
  | some t => xm_go (if b = true then t else pc + 3) lv st h
  | none => none
def xm_tag : ArrayType → Nat
  | .int => 100
  | .long => 101
  | .boolean => 102
  | _ => 0
def xm_pops (n : Nat) (st : List xm_V) : List xm_V := (st.take n).reverse
abbrev xm_w8 (st : List xm_V) : Prop := (st.map xm_cat).sum ≤ 8
def xm_ex (E : xm_E) (md : Bool) (j pc : Nat) (ins : Instr) (len : Nat) (lv : xm_L) (st : List xm_V) (h : xm_H) : Option xm_S := match ins with
  | .iconst n => xm_go (pc + 1) lv (.inl (Int32.ofInt n) :: st) h
  | .bipush n => xm_go (pc + 2) lv (.inl (Int8.ofInt n).toInt32 :: st) h
  | .sipush n => xm_go (pc + 3) lv (.inl (Int16.ofInt n).toInt32 :: st) h
  | .lconst n => xm_go (pc + 1) lv (.inr (.inl (Int64.ofNat (n : Nat))) :: st) h
  | .ldc i => match tb_k (tb_ow j) i with
    | some x => xm_go (pc + 2) lv (.inl x :: st) h
    | none => none
  | .ldc_w i => match tb_k (tb_ow j) i with
    | some x => xm_go (pc + 3) lv (.inl x :: st) h
    | none => none
  | .ldc2_w i => match tb_kl (tb_ow j) i with
    | some x => xm_go (pc + 3) lv (.inr (.inl x) :: st) h
    | none => none
  | .iload i => xm_ld1 pc 2 lv st h i 0
  | .iload_n i => xm_ld1 pc 1 lv st h i 0
  | .lload i => xm_ld1 pc 2 lv st h i 1
  | .lload_n i => xm_ld1 pc 1 lv st h i 1
  | .aload i => xm_ld1 pc 2 lv st h i 2
  | .aload_n i => xm_ld1 pc 1 lv st h i 2
  | .istore i => xm_sto j pc 2 lv st h i 0
  | .istore_n i => xm_sto j pc 1 lv st h i 0
  | .lstore i => xm_sto j pc 2 lv st h i 1
  | .lstore_n i => xm_sto j pc 1 lv st h i 1
  | .astore i => xm_sto j pc 2 lv st h i 2
  | .astore_n i => xm_sto j pc 1 lv st h i 2
  | .iinc i n => match xm_ld lv i with
    | some (.inl x) => if i < tb_ml j then xm_go (pc + 3) (xm_st1 lv i (.inl (x + Int32.ofInt n))) st h else none
    | _ => none
  | .iadd => xm_ii pc lv st h (fun x y => x + y)
  | .isub => xm_ii pc lv st h (fun x y => x - y)
  | .imul => xm_ii pc lv st h (fun x y => x * y)
  | .iand => xm_ii pc lv st h (fun x y => x &&& y)
  | .ior => xm_ii pc lv st h (fun x y => x ||| y)
  | .ixor => xm_ii pc lv st h (fun x y => x ^^^ y)
  | .ishl => xm_ii pc lv st h (fun x y => x <<< (y &&& 31))
  | .ishr => xm_ii pc lv st h (fun x y => x >>> (y &&& 31))
  | .iushr => xm_ii pc lv st h (fun x y => (x.toUInt32 >>> (y.toUInt32 &&& Int32.toUInt32 31)).toInt32)
  | .idiv => match st with
    | .inl y :: .inl x :: r => if y = 0 then none else xm_go (pc + 1) lv (.inl (x / y) :: r) h
    | _ => none
  | .irem => match st with
    | .inl y :: .inl x :: r => if y = 0 then none else xm_go (pc + 1) lv (.inl (x - x / y * y) :: r) h
    | _ => none
  | .ineg => match st with
    | .inl x :: r => xm_go (pc + 1) lv (.inl (-x) :: r) h
    | _ => none
  | .ladd => xm_ll pc lv st h (fun x y => x + y)
  | .lsub => xm_ll pc lv st h (fun x y => x - y)
  | .lmul => xm_ll pc lv st h (fun x y => x * y)
  | .land => xm_ll pc lv st h (fun x y => x &&& y)
  | .lor => xm_ll pc lv st h (fun x y => x ||| y)
  | .lxor => xm_ll pc lv st h (fun x y => x ^^^ y)
  | .lshl => xm_li pc lv st h (fun x y => x <<< (y.toInt64 &&& 63))
  | .lshr => xm_li pc lv st h (fun x y => x >>> (y.toInt64 &&& 63))
  | .lushr => xm_li pc lv st h (fun x y => (x.toUInt64 >>> (y.toInt64.toUInt64 &&& Int64.toUInt64 63)).toInt64)
  | .i2l => match st with
    | .inl x :: r => xm_go (pc + 1) lv (.inr (.inl x.toInt64) :: r) h
    | _ => none
  | .l2i => match st with
    | .inr (.inl x) :: r => xm_go (pc + 1) lv (.inl x.toInt32 :: r) h
    | _ => none
  | .lcmp => match st with
    | .inr (.inl y) :: .inr (.inl x) :: r => xm_go (pc + 1) lv (.inl (lg_cmp x y) :: r) h
    | _ => none
  | .dup => match st with
    | v :: r => if xm_cat v = 1 then xm_go (pc + 1) lv (v :: v :: r) h else none
    | _ => none
  | .dup_x1 => match st with
    | v :: w :: r => if xm_cat v = 1 ∧ xm_cat w = 1 then xm_go (pc + 1) lv (v :: w :: v :: r) h else none
    | _ => none
  | .dup2 => match st with
    | v :: w :: r => if xm_cat v = 1 ∧ xm_cat w = 1 then xm_go (pc + 1) lv (v :: w :: v :: w :: r) h else none
    | _ => none
  | .pop => match st with
    | v :: r => if xm_cat v = 1 then xm_go (pc + 1) lv r h else none
    | _ => none
  | .ifCond c off => match st with
    | .inl x :: r => xm_br pc lv r h (xm_cnd c x 0) off
    | _ => none
  | .if_icmp c off => match st with
    | .inl y :: .inl x :: r => xm_br pc lv r h (xm_cnd c x y) off
    | _ => none
  | .goto off => xm_br pc lv st h true off
  | .tableswitch dflt lo hi offs => match st with
    | .inl x :: r => match (if x.toInt < lo ∨ hi < x.toInt then some dflt else offs[(x.toInt - lo).toNat]?) with
      | some off => match xm_jmp pc off with
        | some t => xm_go t lv r h
        | none => none
      | none => none
    | _ => none
  | .getfield i => match st with
    | .inr (.inr (some a)) :: r => match tb_f (tb_ow j) i with
      | some (ci, k) => if xm_ok E h a ci then xm_go (pc + 3) lv (xm_fv h a (tb_ft ci k) k :: r) h else none
      | none => none
    | _ => none
  | .putfield i => match st with
    | v :: .inr (.inr (some a)) :: r => match tb_f (tb_ow j) i with
      | some (ci, k) => if xm_ok E h a ci ∧ md = true ∧ (tb_fin ci k = false ∨ (tb_ini j = true ∧ tb_ow j = tb_cw ci)) then (match xm_pv h a (tb_ft ci k) k v with
        | some h' => xm_go (pc + 3) lv r h'
        | none => none) else none
      | none => none
    | _ => none
  | .iaload => match st with
    | .inl x :: .inr (.inr (some a)) :: r => if (xm_ok E h a 100 ∨ (E.1 a).1 = 110) ∧ xm_in x (E.1 a).2 then xm_go (pc + 1) lv (.inl (h.2.1 a x.toNatClampNeg) :: r) h else none
    | _ => none
  | .laload => match st with
    | .inl x :: .inr (.inr (some a)) :: r => if xm_ok E h a 101 ∧ xm_in x (E.1 a).2 then xm_go (pc + 1) lv (.inr (.inl (h.2.2.1 a x.toNatClampNeg)) :: r) h else none
    | _ => none
  | .baload => match st with
    | .inl x :: .inr (.inr (some a)) :: r => if xm_ok E h a 102 ∧ xm_in x (E.1 a).2 then xm_go (pc + 1) lv (.inl (h.2.1 a x.toNatClampNeg) :: r) h else none
    | _ => none
  | .aaload => match st with
    | .inl x :: .inr (.inr (some a)) :: r => if xm_kr (E.1 a).1 ∧ E.2.1 a < h.1.1 ∧ xm_in x (E.1 a).2 then xm_go (pc + 1) lv (.inr (.inr (h.2.2.2 a x.toNatClampNeg)) :: r) h else none
    | _ => none
  | .iastore => match st with
    | .inl v :: .inl x :: .inr (.inr (some a)) :: r => if md = true ∧ xm_ok E h a 100 ∧ xm_in x (E.1 a).2 then xm_go (pc + 1) lv r (xm_ui h a x.toNatClampNeg v) else none
    | _ => none
  | .bastore => match st with
    | .inl v :: .inl x :: .inr (.inr (some a)) :: r => if md = true ∧ xm_ok E h a 102 ∧ xm_in x (E.1 a).2 ∧ (v = 0 ∨ v = 1) then xm_go (pc + 1) lv r (xm_ui h a x.toNatClampNeg v) else none
    | _ => none
  | .lastore => match st with
    | .inr (.inl v) :: .inl x :: .inr (.inr (some a)) :: r => if md = true ∧ xm_ok E h a 101 ∧ xm_in x (E.1 a).2 then xm_go (pc + 1) lv r (xm_ul h a x.toNatClampNeg v) else none
    | _ => none
  | .aastore => match st with
    | .inr (.inr (some v)) :: .inl x :: .inr (.inr (some a)) :: r => if md = true ∧ (E.1 v).1 < tb_nc ∧ tb_ra (E.1 v).1 = true ∧ E.2.1 v < h.1.1 ∧ xm_ok E h a (120 + (E.1 v).1) ∧ xm_in x (E.1 a).2 then xm_go (pc + 1) lv r (xm_ur h a x.toNatClampNeg (some v)) else none
    | _ => none
  | .arraylength => match st with
    | .inr (.inr (some a)) :: r => if (E.1 a).1 = 110 ∨ (E.2.1 a < h.1.1 ∧ ((E.1 a).1 = 100 ∨ (E.1 a).1 = 101 ∨ (E.1 a).1 = 102 ∨ xm_kr (E.1 a).1)) then xm_go (pc + 1) lv (.inl (Int32.ofNat (E.1 a).2) :: r) h else none
    | _ => none
  | .new i => match tb_c (tb_ow j) i with
    | some ci => if E.1 (E.2.2 h.1.1) = (ci, 0) ∧ md = true ∧ tb_nw ci = true then xm_go (pc + 3) lv (xm_r (E.2.2 h.1.1) :: st) (xm_new h (tb_fn ci)) else none
    | none => match tb_x (tb_ow j) i, decode (tb_cd j) (pc + 3), decode (tb_cd j) (pc + 4), decode (tb_cd j) (pc + 7) with
      | some x, .ok (.dup, 1), .ok (.invokespecial ic, 3), .ok (.athrow, 1) => if tb_xi (tb_ow j) ic = some x ∧ md = false ∧ st = [] ∧ tb_h j = [] ∧ 200 ≤ (E.1 (E.2.2 h.1.1)).1 then some (.inr (.inl (.inr (E.2.2 h.1.1, x), xm_new h 6))) else none
      | _, _, _, _ => none
  | .newarray t => match st with
    | .inl x :: r => if ¬ x < 0 ∧ x.toNatClampNeg ≤ 60000 ∧ E.1 (E.2.2 h.1.1) = (xm_tag t, x.toNatClampNeg) ∧ 100 ≤ (E.1 (E.2.2 h.1.1)).1 ∧ md = true then xm_go (pc + 2) lv (xm_r (E.2.2 h.1.1) :: r) (xm_new h x.toNatClampNeg) else none
    | _ => none
  | .anewarray i => match st, tb_c (tb_ow j) i with
    | .inl x :: r, some ci => if ¬ x < 0 ∧ x.toNatClampNeg ≤ 60000 ∧ md = true ∧ tb_ra ci = true ∧ E.1 (E.2.2 h.1.1) = (120 + ci, x.toNatClampNeg) then xm_go (pc + 3) lv (xm_r (E.2.2 h.1.1) :: r) (xm_new h x.toNatClampNeg) else none
    | _, _ => none
  | .invokestatic i => match tb_m (tb_ow j) i with
    | some (1, y) => if tb_np y ≤ st.length ∧ xm_w8 (st.drop (tb_np y)) then some (.inr (.inr (y, xm_pops (tb_np y) st, st.drop (tb_np y)))) else none
    | _ => none
  | .invokevirtual i => match tb_m (tb_ow j) i with
    | some (0, y) => match st.drop (tb_np y) with
      | .inr (.inr (some a)) :: r => if xm_ok E h a (tb_kc y) ∧ tb_kc y < tb_nc ∧ xm_w8 r then some (.inr (.inr (y, xm_r a :: xm_pops (tb_np y) st, r))) else none
      | _ => none
    | _ => none
  | .invokespecial i => match tb_m (tb_ow j) i with
    | some (2, y) => match st.drop (tb_np y) with
      | .inr (.inr (some a)) :: r => if xm_w8 r then some (.inr (.inr (y, xm_r a :: xm_pops (tb_np y) st, r))) else none
      | _ => none
    | some (3, _) => match st with
      | .inr (.inr (some a)) :: r => if xm_w8 r then xm_go (pc + 3) lv r h else none
      | _ => none
    | _ => none
  | .ireturn => match st with
    | [.inl v] => if tb_rt j = 1 ∨ (tb_rt j = 2 ∧ (v = 0 ∨ v = 1)) then some (.inr (.inl (.inl (some (.inl v)), h))) else none
    | _ => none
  | .lreturn => match st with
    | [.inr (.inl v)] => if tb_rt j = 3 then some (.inr (.inl (.inl (some (.inr (.inl v))), h))) else none
    | _ => none
  | .return_ => if tb_rt j = 0 ∧ st = [] then some (.inr (.inl (.inl none, h))) else none
  | _ => none
/-- the handler of a thrown thing, by its number -/
def xm_hd (j pc x : Nat) : Option Nat := ((tb_h j).find? (fun q => decide (q.1 ≤ pc) && decide (pc < q.2.1) && decide (tb_x (tb_ow j) q.2.2.2 = some x))).map (fun q => q.2.2.1)
def xm_R (E : xm_E) (C : Bool → Nat → List xm_V → xm_H → xm_O → Prop) (md : Bool) (j : Nat) : Nat → Nat → xm_L → List xm_V → xm_H → xm_O → Prop
  | 0, _, _, _, _, _ => False
  | f + 1, pc, lv, st, h, R => ∃ (ins : Instr) (len : Nat) (r : xm_S), decode (tb_cd j) pc = .ok (ins, len) ∧ (len = xm_len ins ∨ xm_len ins = 0) ∧ xm_ex E md j pc ins len lv st h = some r ∧
    (match r with
    | .inl q => xm_R E C md j f q.1 q.2.1 q.2.2.1 q.2.2.2 R
    | .inr (.inl o) => R = o
    | .inr (.inr q) => ∃ (md' : Bool) (o : xm_O), (md' = true → md = true) ∧ C md' q.1 q.2.1 h o ∧ (match o.1 with
      | .inl v => xm_R E C md j f (pc + 3) lv (v.toList ++ q.2.2) o.2 R
      | .inr x => md = true ∧ md' = false ∧ ∃ t : Nat, xm_hd j pc x.2 = some t ∧ xm_R E C md j f t lv [xm_r x.1] o.2 R))
/-- a call: d bounds the depth -/
def xm_C (E : xm_E) : Nat → Bool → Nat → List xm_V → xm_H → xm_O → Prop
  | 0, _, _, _, _, _ => False
  | d + 1, md, j, as, h, R => j < tb_n ∧ (xm_args as).length ≤ tb_ml j ∧ (∀ x, R.1 = .inr x → 4 ≤ d) ∧ ∃ f : Nat, xm_R E (xm_C E d) md j f 0 (xm_ent as (tb_ml j)) [] h R
/-- a place within a call -/
def xm_G (E : xm_E) (d : Nat) (md : Bool) (j pc : Nat) (lv : xm_L) (st : List xm_V) (h : xm_H) (R : xm_O) : Prop := ∃ f : Nat, xm_R E (xm_C E d) md j f pc lv st h R
