/-! What the small machine does, the real one does. -/
def xm_B (p : Program) (s : State) (m : MethodId) (args : Array Value) (meth : Method) (c : Code) (D : va_G) (cA : Nat → ClassId) (j : Nat) : Prop :=
  p.tables.exec = Jvm.exec ∧ c.code = tb_cd j ∧ c.maxLocals = tb_ml j ∧ meth.locks = false ∧ s.vm.findClass (tb_cn (tb_ow j)) = some m.cls ∧ (∀ w ∈ tb_W, w.before args s = true) ∧ va_K D tb_cl (tb_tys cA) s ∧ meth.sig.returnType = tb_ret j ∧ (tb_ini j = true → meth.name = "<init>")
def xm_N (D : va_G) (cA : Nat → ClassId) (s0 : State) (b n : Nat) (xs : Nat → Int32) (E : xm_E) (md : Bool) (h0 : xm_H) (nL : Nat) (lv : xm_L) (h : xm_H) (ls : Array Slot) (H : Heap) (locs : List Loc) (cells slots : Nat) : Prop :=
  xm_lo (xm_a E s0.heap.size b) ls nL lv ∧ xm_w D cA s0 b n xs E h H ∧ h.1.1 = h0.1.1 + cells ∧ h.1.2 = h0.1.2 + slots ∧ (∀ q ∈ locs, s0.heap.size ≤ q.base) ∧ (md = false → locs = [])
def xm_Wd (p : Program) (l : Launch) (e : Env) (R : Room) (s : State) (m : MethodId) (args : Array Value) (below : List Frame) (meth : Method) (c : Code) (Q : State → Prop) (D : va_G) (cA : Nat → ClassId) (s0 : State) (b n : Nat) (xs : Nat → Int32) (E : xm_E) (md : Bool) (h0 : xm_H) (nL : Nat) (pc : Nat) (lv : xm_L) (st : List xm_V) (h : xm_H) : Prop :=
  ∀ (ls : Array Slot) (H : Heap) (locs : List Loc) (cells slots : Nat), xm_N D cA s0 b n xs E md h0 nL lv h ls H locs cells slots → W p l e R s m args below meth c H locs cells slots Q (F0 m pc ls (st.map (xm_v (xm_a E s0.heap.size b))))
/-- the instructions that touch stack and locals alone, and go straight on -/
def xm_pl : Instr → Bool
  | .iadd => true
  | .isub => true
  | .imul => true
  | .iand => true
  | .ior => true
  | .ixor => true
  | .ishl => true
  | .ishr => true
  | .iushr => true
  | .idiv => true
  | .irem => true
  | .ineg => true
  | .ladd => true
  | .lsub => true
  | .lmul => true
  | .land => true
  | .lor => true
  | .lxor => true
  | .lshl => true
  | .lshr => true
  | .lushr => true
  | .i2l => true
  | .l2i => true
  | .lcmp => true
  | .iconst _ => true
  | .bipush _ => true
  | .sipush _ => true
  | .lconst _ => true
  | .ldc _ => true
  | .ldc_w _ => true
  | .ldc2_w _ => true
  | .iload _ => true
  | .iload_n _ => true
  | .lload _ => true
  | .lload_n _ => true
  | .aload _ => true
  | .aload_n _ => true
  | .istore _ => true
  | .istore_n _ => true
  | .lstore _ => true
  | .lstore_n _ => true
  | .astore _ => true
  | .astore_n _ => true
  | .iinc _ _ => true
  | .dup => true
  | .pop => true
  | .dup_x1 => true
  | .dup2 => true
  | _ => false
def xm_pb : Instr → Bool
  | .goto _ => true
  | .ifCond _ _ => true
  | .if_icmp _ _ => true
  | .tableswitch _ _ _ _ => true
  | _ => false
section XS
variable {l : Launch} {p : Program} {e : Env} {R : Room} {s : State} {m : MethodId} {args : Array Value} {below : List Frame} {meth : Method} {c : Code} {Q : State → Prop}
variable {D : va_G} {cA : Nat → ClassId} {s0 : State} {b n : Nat} {xs : Nat → Int32} {E : xm_E} {md : Bool} {j : Nat} {h0 : xm_H}
theorem xs_jmp {pc t : Nat} {off : Int} (h : xm_jmp pc off = some t) : (pc : Int) + off = (t : Int) := by
  unfold xm_jmp at h
  split at h
  · cases h; omega
  · cases h
/-- what the tables say of a field -/
theorem xs_fld (hts : ∀ w ∈ tb_W, w.before args s = true) (hK : va_K D tb_cl (tb_tys cA) s) {ci k : Nat} (hc : ci < tb_nc) (hk : k < tb_fn ci) :
    ∃ (cf : Nat) (kf : Class) (fi : Nat) (f : Field), s.fieldFound? (tb_T ci k).1 (tb_T ci k).2.1 (tb_T ci k).2.2.1 = some (cf, kf, fi, f) ∧ f.isStatic = false ∧ f.slot = D.2 ci k ∧
      (∀ v : Value, narrow (tb_ty ci k) v = v → fits (tb_ty ci k) v = true → narrow f.type v = v ∧ s.fitsSlot (D.1 ci) .none f.slot v = true) ∧ (tb_fin ci k = false → hasFlag f.accessFlags Acc.final = false) ∧ (tb_fin ci k = true → s.vm.findClass (tb_C ci) = some cf) := by
  have hq := tb_q_ok ci hc
  obtain ⟨hS, hfc, kC, hkC, hkind⟩ := hK.1 ci _ hq
  obtain ⟨cf, kf, fi, f, hi, hsl⟩ := hS k hk
  have hlays := u_lays hts (tb_lay ci hc) hk
  have hfin := tb_fin_ok ci hc k hk
  have hlay := hts _ (tb_lay ci hc _ (u_in_lay hk))
  unfold u_lay at hlay
  refine ⟨cf, kf, fi, f, hi, (u_facts hfc hkC hlays hi).1, hsl, fun v hn hv => u_fits hfc hkC hkind hlays hi (tb_ty_ok ci hc k hk) hn hv, fun h0 => ?_, fun h1 => ?_⟩
  · rw [hfin.1] at h0
    rw [if_neg (by rw [h0]; decide)] at hlay
    obtain ⟨c, k9, cf', kf', fi', fd', r1, r2, hi', hst, hf, -⟩ := Cond.lays_spec hlay
    cases hi.symm.trans hi'
    exact hf
  · rw [hfin.1] at h1
    rw [if_pos h1] at hlay
    obtain ⟨_, _, c', _, _, _, -, -, hf', -, -, -, hown2, -⟩ := Cond.laysFinal_spec hlay
    have e1 : c' = cf := by have := hi.symm.trans hf'; simp at this; exact this.1.symm
    rw [hfin.2] at hown2
    rw [← e1]; exact hown2
theorem xs_apart (hts : ∀ w ∈ tb_W, w.before args s = true) (hK : va_K D tb_cl (tb_tys cA) s) {ci : Nat} (hc : ci < tb_nc) : ∀ x y, x < tb_fn ci → y < tb_fn ci → x ≠ y → D.2 ci x ≠ D.2 ci y :=
  va_apart (own := "") hts (tb_lay ci hc) (tb_ty ci) (tb_ty_ok ci hc) (tb_nm ci hc) hK (tb_q_ok ci hc)
theorem xs_L {a : xm_I} (h : (E.1 a).1 ≠ 110) : xm_a E s0.heap.size b a = s0.heap.size + E.2.1 a := by unfold xm_a; rw [if_neg h]

set_option maxHeartbeats 4000000 in
set_option maxRecDepth 100000 in
theorem xs_plain (hB : xm_B p s m args meth c D cA j) {pc : Nat} {lv : xm_L} {st : List xm_V} {h : xm_H} {ins : Instr} {len : Nat} (hd : decode (tb_cd j) pc = .ok (ins, len)) (hlen : len = xm_len ins ∨ xm_len ins = 0) {q : xm_F} (hex : xm_ex E md j pc ins len lv st h = some (.inl q))
    (hpl : xm_pl ins = true) (kk : xm_Wd p l e R s m args below meth c Q D cA s0 b n xs E md h0 (tb_ml j) q.1 q.2.1 q.2.2.1 q.2.2.2) : xm_Wd p l e R s m args below meth c Q D cA s0 b n xs E md h0 (tb_ml j) pc lv st h := by
  intro ls H locs cells slots hN
  obtain ⟨hx, hb, hml, hlk, hown, hts, hK, hr, hi⟩ := hB
  cases ins with

  | iadd =>
    have hl : len = 1 := hlen.resolve_right (show ¬ ((1 : Nat) = 0) by decide)
    subst hl
    simp only [xm_ex, xm_ii] at hex
    split at hex
    · cases hex
      simp only [List.map_cons, xm_v]
      exact lv_iadd hx hb hd (kk _ _ _ _ _ hN)
    · cases hex
  | isub =>
    have hl : len = 1 := hlen.resolve_right (show ¬ ((1 : Nat) = 0) by decide)
    subst hl
    simp only [xm_ex, xm_ii] at hex
    split at hex
    · cases hex
      simp only [List.map_cons, xm_v]
      exact lv_isub hx hb hd (kk _ _ _ _ _ hN)
    · cases hex
  | imul =>
    have hl : len = 1 := hlen.resolve_right (show ¬ ((1 : Nat) = 0) by decide)
    subst hl
    simp only [xm_ex, xm_ii] at hex
    split at hex
    · cases hex
      simp only [List.map_cons, xm_v]
      exact lv_imul hx hb hd (kk _ _ _ _ _ hN)
    · cases hex
  | iand =>
    have hl : len = 1 := hlen.resolve_right (show ¬ ((1 : Nat) = 0) by decide)
    subst hl
    simp only [xm_ex, xm_ii] at hex
    split at hex
    · cases hex
      simp only [List.map_cons, xm_v]
      exact lv_iand hx hb hd (kk _ _ _ _ _ hN)
    · cases hex
  | ior =>
    have hl : len = 1 := hlen.resolve_right (show ¬ ((1 : Nat) = 0) by decide)
    subst hl
    simp only [xm_ex, xm_ii] at hex
    split at hex
    · cases hex
      simp only [List.map_cons, xm_v]
      exact lv_ior hx hb hd (kk _ _ _ _ _ hN)
    · cases hex
  | ixor =>
    have hl : len = 1 := hlen.resolve_right (show ¬ ((1 : Nat) = 0) by decide)
    subst hl
    simp only [xm_ex, xm_ii] at hex
    split at hex
    · cases hex
      simp only [List.map_cons, xm_v]
      exact lv_ixor hx hb hd (kk _ _ _ _ _ hN)
    · cases hex
  | ishl =>
    have hl : len = 1 := hlen.resolve_right (show ¬ ((1 : Nat) = 0) by decide)
    subst hl
    simp only [xm_ex, xm_ii] at hex
    split at hex
    · cases hex
      simp only [List.map_cons, xm_v]
      exact lv_ishl hx hb hd (kk _ _ _ _ _ hN)
    · cases hex
  | ishr =>
    have hl : len = 1 := hlen.resolve_right (show ¬ ((1 : Nat) = 0) by decide)
    subst hl
    simp only [xm_ex, xm_ii] at hex
    split at hex
    · cases hex
      simp only [List.map_cons, xm_v]
      exact lv_ishr hx hb hd (kk _ _ _ _ _ hN)
    · cases hex
  | iushr =>
    have hl : len = 1 := hlen.resolve_right (show ¬ ((1 : Nat) = 0) by decide)
    subst hl
    simp only [xm_ex, xm_ii] at hex
    split at hex
    · cases hex
      simp only [List.map_cons, xm_v]
      exact lv_iushr hx hb hd rfl (kk _ _ _ _ _ hN)
    · cases hex
  | idiv =>
    have hl : len = 1 := hlen.resolve_right (show ¬ ((1 : Nat) = 0) by decide)
    subst hl
    simp only [xm_ex] at hex
    split at hex
    · split at hex
      · cases hex
      · rename_i hne
        cases hex
        simp only [List.map_cons, xm_v]
        exact lv_idiv hx hb hd hne (kk _ _ _ _ _ hN)
    · cases hex
  | irem =>
    have hl : len = 1 := hlen.resolve_right (show ¬ ((1 : Nat) = 0) by decide)
    subst hl
    simp only [xm_ex] at hex
    split at hex
    · split at hex
      · cases hex
      · rename_i hne
        cases hex
        simp only [List.map_cons, xm_v]
        exact lv_irem hx hb hd hne (kk _ _ _ _ _ hN)
    · cases hex
  | ineg =>
    have hl : len = 1 := hlen.resolve_right (show ¬ ((1 : Nat) = 0) by decide)
    subst hl
    simp only [xm_ex] at hex
    split at hex
    · cases hex
      simp only [List.map_cons, xm_v]
      exact lv_ineg hx hb hd (kk _ _ _ _ _ hN)
    · cases hex
  | ladd =>
    have hl : len = 1 := hlen.resolve_right (show ¬ ((1 : Nat) = 0) by decide)
    subst hl
    simp only [xm_ex, xm_ll] at hex
    split at hex
    · cases hex
      simp only [List.map_cons, xm_v]
      exact lv_ladd hx hb hd (kk _ _ _ _ _ hN)
    · cases hex
  | lsub =>
    have hl : len = 1 := hlen.resolve_right (show ¬ ((1 : Nat) = 0) by decide)
    subst hl
    simp only [xm_ex, xm_ll] at hex
    split at hex
    · cases hex
      simp only [List.map_cons, xm_v]
      exact lv_lsub hx hb hd (kk _ _ _ _ _ hN)
    · cases hex
  | lmul =>
    have hl : len = 1 := hlen.resolve_right (show ¬ ((1 : Nat) = 0) by decide)
    subst hl
    simp only [xm_ex, xm_ll] at hex
    split at hex
    · cases hex
      simp only [List.map_cons, xm_v]
      exact lv_lmul hx hb hd (kk _ _ _ _ _ hN)
    · cases hex
  | land =>
    have hl : len = 1 := hlen.resolve_right (show ¬ ((1 : Nat) = 0) by decide)
    subst hl
    simp only [xm_ex, xm_ll] at hex
    split at hex
    · cases hex
      simp only [List.map_cons, xm_v]
      exact lv_land hx hb hd (kk _ _ _ _ _ hN)
    · cases hex
  | lor =>
    have hl : len = 1 := hlen.resolve_right (show ¬ ((1 : Nat) = 0) by decide)
    subst hl
    simp only [xm_ex, xm_ll] at hex
    split at hex
    · cases hex
      simp only [List.map_cons, xm_v]
      exact lv_lor hx hb hd (kk _ _ _ _ _ hN)
    · cases hex
  | lxor =>
    have hl : len = 1 := hlen.resolve_right (show ¬ ((1 : Nat) = 0) by decide)
    subst hl
    simp only [xm_ex, xm_ll] at hex
    split at hex
    · cases hex
      simp only [List.map_cons, xm_v]
      exact lv_lxor hx hb hd (kk _ _ _ _ _ hN)
    · cases hex
  | lshl =>
    have hl : len = 1 := hlen.resolve_right (show ¬ ((1 : Nat) = 0) by decide)
    subst hl
    simp only [xm_ex, xm_li] at hex
    split at hex
    · cases hex
      simp only [List.map_cons, xm_v]
      exact lv_lshl hx hb hd rfl (kk _ _ _ _ _ hN)
    · cases hex
  | lshr =>
    have hl : len = 1 := hlen.resolve_right (show ¬ ((1 : Nat) = 0) by decide)
    subst hl
    simp only [xm_ex, xm_li] at hex
    split at hex
    · cases hex
      simp only [List.map_cons, xm_v]
      exact lv_lshr hx hb hd rfl (kk _ _ _ _ _ hN)
    · cases hex
  | lushr =>
    have hl : len = 1 := hlen.resolve_right (show ¬ ((1 : Nat) = 0) by decide)
    subst hl
    simp only [xm_ex, xm_li] at hex
    split at hex
    · cases hex
      simp only [List.map_cons, xm_v]
      exact lv_lushr hx hb hd rfl (kk _ _ _ _ _ hN)
    · cases hex
  | i2l =>
    have hl : len = 1 := hlen.resolve_right (show ¬ ((1 : Nat) = 0) by decide)
    subst hl
    simp only [xm_ex] at hex
    split at hex
    · cases hex
      simp only [List.map_cons, xm_v]
      exact lv_i2l hx hb hd rfl (kk _ _ _ _ _ hN)
    · cases hex
  | l2i =>
    have hl : len = 1 := hlen.resolve_right (show ¬ ((1 : Nat) = 0) by decide)
    subst hl
    simp only [xm_ex] at hex
    split at hex
    · cases hex
      simp only [List.map_cons, xm_v]
      exact lv_l2i hx hb hd rfl (kk _ _ _ _ _ hN)
    · cases hex
  | lcmp =>
    have hl : len = 1 := hlen.resolve_right (show ¬ ((1 : Nat) = 0) by decide)
    subst hl
    simp only [xm_ex] at hex
    split at hex
    · cases hex
      simp only [List.map_cons, xm_v]
      exact W.lcmp hx hb hd (kk _ _ _ _ _ hN)
    · cases hex
  | iconst x =>
    have hl : len = 1 := hlen.resolve_right (show ¬ ((1 : Nat) = 0) by decide)
    subst hl
    simp only [xm_ex] at hex
    cases hex
    exact lv_iconst hx hb hd rfl (kk _ _ _ _ _ hN)
  | bipush x =>
    have hl : len = 2 := hlen.resolve_right (show ¬ ((2 : Nat) = 0) by decide)
    subst hl
    simp only [xm_ex] at hex
    cases hex
    exact lv_bipush hx hb hd rfl (kk _ _ _ _ _ hN)
  | sipush x =>
    have hl : len = 3 := hlen.resolve_right (show ¬ ((3 : Nat) = 0) by decide)
    subst hl
    simp only [xm_ex] at hex
    cases hex
    exact lv_sipush hx hb hd rfl (kk _ _ _ _ _ hN)
  | lconst x =>
    have hl : len = 1 := hlen.resolve_right (show ¬ ((1 : Nat) = 0) by decide)
    subst hl
    simp only [xm_ex] at hex
    cases hex
    exact lv_lconst hx hb hd rfl (kk _ _ _ _ _ hN)
  | ldc i =>
    have hl : len = 2 := hlen.resolve_right (show ¬ ((2 : Nat) = 0) by decide)
    subst hl
    simp only [xm_ex] at hex
    split at hex
    · rename_i x hx1
      cases hex
      exact lv_ldc hx hb hown (hts _ (tb_k_w _ _ _ hx1)) hd (kk _ _ _ _ _ hN)
    · cases hex
  | ldc_w i =>
    have hl : len = 3 := hlen.resolve_right (show ¬ ((3 : Nat) = 0) by decide)
    subst hl
    simp only [xm_ex] at hex
    split at hex
    · rename_i x hx1
      cases hex
      exact lv_ldcw hx hb hown (hts _ (tb_k_w _ _ _ hx1)) hd (kk _ _ _ _ _ hN)
    · cases hex
  | ldc2_w i =>
    have hl : len = 3 := hlen.resolve_right (show ¬ ((3 : Nat) = 0) by decide)
    subst hl
    simp only [xm_ex] at hex
    split at hex
    · rename_i x hx1
      cases hex
      exact lv_ldc2 hx hb hown (hts _ (tb_kl_w _ _ _ hx1)) hd (kk _ _ _ _ _ hN)
    · cases hex
  | iload i =>
    have hl : len = 2 := hlen.resolve_right (show ¬ ((2 : Nat) = 0) by decide)
    subst hl
    simp only [xm_ex, xm_ld1] at hex
    split at hex
    all_goals first | (rename_i x hx1 he; cases he) | (rename_i x hx1; skip) | skip
    all_goals first | (cases hex; done) | skip
    all_goals
      cases hex
      exact lv_iload hx hb hd (xm_lo_at hN.1 (by assumption)) (kk _ _ _ _ _ hN)
  | iload_n i =>
    have hl : len = 1 := hlen.resolve_right (show ¬ ((1 : Nat) = 0) by decide)
    subst hl
    simp only [xm_ex, xm_ld1] at hex
    split at hex
    all_goals first | (rename_i x hx1 he; cases he) | (rename_i x hx1; skip) | skip
    all_goals first | (cases hex; done) | skip
    all_goals
      cases hex
      exact lv_iload_n hx hb hd rfl (xm_lo_at hN.1 (by assumption)) (kk _ _ _ _ _ hN)
  | lload i =>
    have hl : len = 2 := hlen.resolve_right (show ¬ ((2 : Nat) = 0) by decide)
    subst hl
    simp only [xm_ex, xm_ld1] at hex
    split at hex
    all_goals first | (rename_i x hx1 he; cases he) | (rename_i x hx1; skip) | skip
    all_goals first | (cases hex; done) | skip
    all_goals
      cases hex
      exact lv_lload hx hb hd (xm_lo_at hN.1 (by assumption)) (kk _ _ _ _ _ hN)
  | lload_n i =>
    have hl : len = 1 := hlen.resolve_right (show ¬ ((1 : Nat) = 0) by decide)
    subst hl
    simp only [xm_ex, xm_ld1] at hex
    split at hex
    all_goals first | (rename_i x hx1 he; cases he) | (rename_i x hx1; skip) | skip
    all_goals first | (cases hex; done) | skip
    all_goals
      cases hex
      exact lv_lload_n hx hb hd rfl (xm_lo_at hN.1 (by assumption)) (kk _ _ _ _ _ hN)
  | aload i =>
    have hl : len = 2 := hlen.resolve_right (show ¬ ((2 : Nat) = 0) by decide)
    subst hl
    simp only [xm_ex, xm_ld1] at hex
    split at hex
    all_goals first | (rename_i x hx1 he; cases he) | (rename_i x hx1; skip) | skip
    all_goals first | (cases hex; done) | skip
    all_goals
      cases hex
      exact lv_aload hx hb hd (xm_lo_at hN.1 (by assumption)) (kk _ _ _ _ _ hN)
  | aload_n i =>
    have hl : len = 1 := hlen.resolve_right (show ¬ ((1 : Nat) = 0) by decide)
    subst hl
    simp only [xm_ex, xm_ld1] at hex
    split at hex
    all_goals first | (rename_i x hx1 he; cases he) | (rename_i x hx1; skip) | skip
    all_goals first | (cases hex; done) | skip
    all_goals
      cases hex
      exact lv_aload_n hx hb hd rfl (xm_lo_at hN.1 (by assumption)) (kk _ _ _ _ _ hN)
  | istore i =>
    have hl : len = 2 := hlen.resolve_right (show ¬ ((2 : Nat) = 0) by decide)
    subst hl
    simp only [xm_ex, xm_sto] at hex
    split at hex
    all_goals first | (cases hex; done) | skip
    all_goals first | (rename_i he; cases he; done) | skip
    all_goals
      split at hex
      · rename_i hlt
        cases hex
        simp only [List.map_cons, xm_v]
        exact lv_istore hx hb hd hN.1.2 hlt rfl (fun ls' h' => kk _ _ _ _ _ ⟨xm_lo1 hN.1 h', hN.2⟩)
      · cases hex
  | istore_n i =>
    have hl : len = 1 := hlen.resolve_right (show ¬ ((1 : Nat) = 0) by decide)
    subst hl
    simp only [xm_ex, xm_sto] at hex
    split at hex
    all_goals first | (cases hex; done) | skip
    all_goals first | (rename_i he; cases he; done) | skip
    all_goals
      split at hex
      · rename_i hlt
        cases hex
        simp only [List.map_cons, xm_v]
        exact lv_istore_n hx hb hd rfl hN.1.2 hlt rfl (fun ls' h' => kk _ _ _ _ _ ⟨xm_lo1 hN.1 h', hN.2⟩)
      · cases hex
  | lstore i =>
    have hl : len = 2 := hlen.resolve_right (show ¬ ((2 : Nat) = 0) by decide)
    subst hl
    simp only [xm_ex, xm_sto] at hex
    split at hex
    all_goals first | (cases hex; done) | skip
    all_goals first | (rename_i he; cases he; done) | skip
    all_goals
      split at hex
      · rename_i hlt
        cases hex
        simp only [List.map_cons, xm_v]
        exact lv_lstore hx hb hd hN.1.2 hlt rfl (fun ls' h' => kk _ _ _ _ _ ⟨xm_lo2 hN.1 h', hN.2⟩)
      · cases hex
  | lstore_n i =>
    have hl : len = 1 := hlen.resolve_right (show ¬ ((1 : Nat) = 0) by decide)
    subst hl
    simp only [xm_ex, xm_sto] at hex
    split at hex
    all_goals first | (cases hex; done) | skip
    all_goals first | (rename_i he; cases he; done) | skip
    all_goals
      split at hex
      · rename_i hlt
        cases hex
        simp only [List.map_cons, xm_v]
        exact lv_lstore_n hx hb hd rfl hN.1.2 hlt rfl (fun ls' h' => kk _ _ _ _ _ ⟨xm_lo2 hN.1 h', hN.2⟩)
      · cases hex
  | astore i =>
    have hl : len = 2 := hlen.resolve_right (show ¬ ((2 : Nat) = 0) by decide)
    subst hl
    simp only [xm_ex, xm_sto] at hex
    split at hex
    all_goals first | (cases hex; done) | skip
    all_goals first | (rename_i he; cases he; done) | skip
    all_goals
      split at hex
      · rename_i hlt
        cases hex
        simp only [List.map_cons, xm_v]
        exact lv_astore hx hb hd hN.1.2 hlt rfl (fun ls' h' => kk _ _ _ _ _ ⟨xm_lo1 hN.1 h', hN.2⟩)
      · cases hex
  | astore_n i =>
    have hl : len = 1 := hlen.resolve_right (show ¬ ((1 : Nat) = 0) by decide)
    subst hl
    simp only [xm_ex, xm_sto] at hex
    split at hex
    all_goals first | (cases hex; done) | skip
    all_goals first | (rename_i he; cases he; done) | skip
    all_goals
      split at hex
      · rename_i hlt
        cases hex
        simp only [List.map_cons, xm_v]
        exact lv_astore_n hx hb hd rfl hN.1.2 hlt rfl (fun ls' h' => kk _ _ _ _ _ ⟨xm_lo1 hN.1 h', hN.2⟩)
      · cases hex
  | iinc i k =>
    have hl : len = 3 := hlen.resolve_right (show ¬ ((3 : Nat) = 0) by decide)
    subst hl
    simp only [xm_ex] at hex
    split at hex
    · rename_i x hx1
      split at hex
      · rename_i hlt
        cases hex
        obtain ⟨z, hz⟩ := List.getElem?_of_mem (xm_lv_mem.mpr ⟨_, hx1, rfl⟩ : (i, xm_v (xm_a E s0.heap.size b) (Sum.inl x)) ∈ xm_lv _ lv)
        exact lv_iinc hx hb hd hN.1.2 hz rfl hlt rfl (fun ls' h' => kk _ _ _ _ _ ⟨xm_lo1 (v := Sum.inl _) hN.1 h', hN.2⟩)
      · cases hex
    · cases hex
  | dup =>
    have hl : len = 1 := hlen.resolve_right (show ¬ ((1 : Nat) = 0) by decide)
    subst hl
    simp only [xm_ex] at hex
    split at hex
    · split at hex
      · rename_i hc
        cases hex
        simp only [List.map_cons]
        exact lv_dup hx hb hd (by rw [xm_v_cat]; exact hc) (kk _ _ _ _ _ hN)
      · cases hex
    · cases hex
  | pop =>
    have hl : len = 1 := hlen.resolve_right (show ¬ ((1 : Nat) = 0) by decide)
    subst hl
    simp only [xm_ex] at hex
    split at hex
    · split at hex
      · rename_i hc
        cases hex
        simp only [List.map_cons]
        exact lv_pop hx hb hd (by rw [xm_v_cat]; exact hc) (kk _ _ _ _ _ hN)
      · cases hex
    · cases hex
  | dup_x1 =>
    have hl : len = 1 := hlen.resolve_right (show ¬ ((1 : Nat) = 0) by decide)
    subst hl
    simp only [xm_ex] at hex
    split at hex
    · split at hex
      · rename_i hc
        cases hex
        simp only [List.map_cons]
        exact lv_dup_x1 hx hb hd (by rw [xm_v_cat]; exact hc.1) (by rw [xm_v_cat]; exact hc.2) (kk _ _ _ _ _ hN)
      · cases hex
    · cases hex
  | dup2 =>
    have hl : len = 1 := hlen.resolve_right (show ¬ ((1 : Nat) = 0) by decide)
    subst hl
    simp only [xm_ex] at hex
    split at hex
    · split at hex
      · rename_i hc
        cases hex
        simp only [List.map_cons]
        exact lv_dup2_11 hx hb hd (by rw [xm_v_cat]; exact hc.1) (by rw [xm_v_cat]; exact hc.2) (kk _ _ _ _ _ hN)
      · cases hex
    · cases hex

  | _ => cases hpl
set_option maxHeartbeats 4000000 in
theorem xs_br (hB : xm_B p s m args meth c D cA j) {pc : Nat} {lv : xm_L} {st : List xm_V} {h : xm_H} {ins : Instr} {len : Nat} (hd : decode (tb_cd j) pc = .ok (ins, len)) (hlen : len = xm_len ins ∨ xm_len ins = 0) {q : xm_F} (hex : xm_ex E md j pc ins len lv st h = some (.inl q))
    (hpl : xm_pb ins = true) (kk : xm_Wd p l e R s m args below meth c Q D cA s0 b n xs E md h0 (tb_ml j) q.1 q.2.1 q.2.2.1 q.2.2.2) : xm_Wd p l e R s m args below meth c Q D cA s0 b n xs E md h0 (tb_ml j) pc lv st h := by
  intro ls H locs cells slots hN
  obtain ⟨hx, hb, hml, hlk, hown, hts, hK, hr, hi⟩ := hB
  cases ins with
  | goto off =>
    have hl : len = 3 := hlen.resolve_right (show ¬ ((3 : Nat) = 0) by decide)
    subst hl
    simp only [xm_ex, xm_br] at hex
    split at hex
    · rename_i t ht
      cases hex
      exact lv_goto hx hb hd (xs_jmp ht) (kk _ _ _ _ _ hN)
    · cases hex
  | ifCond cd off =>
    have hl : len = 3 := hlen.resolve_right (show ¬ ((3 : Nat) = 0) by decide)
    subst hl
    simp only [xm_ex, xm_br] at hex
    split at hex
    · rename_i x r
      split at hex
      · rename_i t ht
        have hq := Option.some.inj hex
        have hq := Sum.inl.inj hq
        subst hq
        simp only [List.map_cons, xm_v]
        cases cd
        case eq => exact lv_if_eq hx hb hd (xs_jmp ht) (fun hc => by simpa only [xm_cnd, decide_eq_true_eq, if_pos hc] using kk _ _ _ _ _ hN) (fun hc => by simpa only [xm_cnd, decide_eq_true_eq, if_neg hc] using kk _ _ _ _ _ hN)
        case ne => exact lv_if_ne hx hb hd (xs_jmp ht) (fun hc => by simpa only [xm_cnd, decide_eq_true_eq, if_pos hc] using kk _ _ _ _ _ hN) (fun hc => by simpa only [xm_cnd, decide_eq_true_eq, if_neg (fun z : ¬ x = 0 => z hc)] using kk _ _ _ _ _ hN)
        case lt => exact lv_if_lt hx hb hd (xs_jmp ht) (fun hc => by simpa only [xm_cnd, decide_eq_true_eq, if_pos hc] using kk _ _ _ _ _ hN) (fun hc => by simpa only [xm_cnd, decide_eq_true_eq, if_neg hc] using kk _ _ _ _ _ hN)
        case ge => exact lv_if_ge hx hb hd (xs_jmp ht) (fun hc => by simpa only [xm_cnd, decide_eq_true_eq, if_pos hc] using kk _ _ _ _ _ hN) (fun hc => by simpa only [xm_cnd, decide_eq_true_eq, if_neg hc] using kk _ _ _ _ _ hN)
        case gt => exact lv_if_gt hx hb hd (xs_jmp ht) (fun hc => by simpa only [xm_cnd, decide_eq_true_eq, if_pos hc] using kk _ _ _ _ _ hN) (fun hc => by simpa only [xm_cnd, decide_eq_true_eq, if_neg hc] using kk _ _ _ _ _ hN)
        case le => exact lv_if_le hx hb hd (xs_jmp ht) (fun hc => by simpa only [xm_cnd, decide_eq_true_eq, if_pos hc] using kk _ _ _ _ _ hN) (fun hc => by simpa only [xm_cnd, decide_eq_true_eq, if_neg hc] using kk _ _ _ _ _ hN)
      · cases hex
    · cases hex
  | if_icmp cd off =>
    have hl : len = 3 := hlen.resolve_right (show ¬ ((3 : Nat) = 0) by decide)
    subst hl
    simp only [xm_ex, xm_br] at hex
    split at hex
    · rename_i y x r
      split at hex
      · rename_i t ht
        have hq := Option.some.inj hex
        have hq := Sum.inl.inj hq
        subst hq
        simp only [List.map_cons, xm_v]
        cases cd
        case eq => exact lv_icmp_eq hx hb hd (xs_jmp ht) (fun hc => by simpa only [xm_cnd, decide_eq_true_eq, if_pos hc] using kk _ _ _ _ _ hN) (fun hc => by simpa only [xm_cnd, decide_eq_true_eq, if_neg hc] using kk _ _ _ _ _ hN)
        case ne => exact lv_icmp_ne hx hb hd (xs_jmp ht) (fun hc => by simpa only [xm_cnd, decide_eq_true_eq, if_pos hc] using kk _ _ _ _ _ hN) (fun hc => by simpa only [xm_cnd, decide_eq_true_eq, if_neg (fun z : ¬ x = y => z hc)] using kk _ _ _ _ _ hN)
        case lt => exact lv_icmp_lt hx hb hd (xs_jmp ht) (fun hc => by simpa only [xm_cnd, decide_eq_true_eq, if_pos hc] using kk _ _ _ _ _ hN) (fun hc => by simpa only [xm_cnd, decide_eq_true_eq, if_neg hc] using kk _ _ _ _ _ hN)
        case ge => exact lv_icmp_ge hx hb hd (xs_jmp ht) (fun hc => by simpa only [xm_cnd, decide_eq_true_eq, if_pos hc] using kk _ _ _ _ _ hN) (fun hc => by simpa only [xm_cnd, decide_eq_true_eq, if_neg hc] using kk _ _ _ _ _ hN)
        case gt => exact lv_icmp_gt hx hb hd (xs_jmp ht) (fun hc => by simpa only [xm_cnd, decide_eq_true_eq, if_pos hc] using kk _ _ _ _ _ hN) (fun hc => by simpa only [xm_cnd, decide_eq_true_eq, if_neg hc] using kk _ _ _ _ _ hN)
        case le => exact lv_icmp_le hx hb hd (xs_jmp ht) (fun hc => by simpa only [xm_cnd, decide_eq_true_eq, if_pos hc] using kk _ _ _ _ _ hN) (fun hc => by simpa only [xm_cnd, decide_eq_true_eq, if_neg hc] using kk _ _ _ _ _ hN)
      · cases hex
    · cases hex
  | tableswitch dflt lo hi offs =>
    simp only [xm_ex] at hex
    split at hex
    · rename_i x r
      split at hex
      · rename_i off hoff
        split at hex
        · rename_i t ht
          cases hex
          simp only [List.map_cons, xm_v]
          by_cases hout : x.toInt < lo ∨ hi < x.toInt
          · rw [if_pos hout] at hoff
            cases hoff
            exact lv_tableOut hx hb hd hout (xs_jmp ht) (kk _ _ _ _ _ hN)
          · rw [if_neg hout] at hoff
            exact lv_tableIn hx hb hd (fun z => hout (Or.inl z)) (fun z => hout (Or.inr z)) hoff (xs_jmp ht) (kk _ _ _ _ _ hN)
        · cases hex
      · cases hex
    · cases hex
  | _ => cases hpl
/-- reading an id's object -/
theorem xs_obj {h : xm_H} {H : Heap} {a : xm_I} {ci : Nat} (hw : xm_w D cA s0 b n xs E h H) (hc : ci < tb_nc) (hok : xm_ok E h a ci) :
    t_OB (s0.heap.size + E.2.1 a) (D.1 ci) (tb_fn ci) (D.2 ci) H (fun k => xm_v (xm_a E s0.heap.size b) (xm_fv h a (tb_ft ci k) k)) := by
  have := xm_nc
  have h1 := (hw.2.2.1 a hok.2).1 (by rw [hok.1]; exact hc)
  rw [hok.1, xs_L (by rw [hok.1]; omega)] at h1
  exact h1
set_option maxHeartbeats 4000000 in
theorem xs_get (hB : xm_B p s m args meth c D cA j) {pc i : Nat} {lv : xm_L} {st : List xm_V} {h : xm_H} {len : Nat} (hd : decode (tb_cd j) pc = .ok (.getfield i, len)) (hlen : len = xm_len (.getfield i) ∨ xm_len (.getfield i) = 0) {q : xm_F} (hex : xm_ex E md j pc (.getfield i) len lv st h = some (.inl q))
    (kk : xm_Wd p l e R s m args below meth c Q D cA s0 b n xs E md h0 (tb_ml j) q.1 q.2.1 q.2.2.1 q.2.2.2) : xm_Wd p l e R s m args below meth c Q D cA s0 b n xs E md h0 (tb_ml j) pc lv st h := by
  intro ls H locs cells slots hN
  obtain ⟨hx, hb, hml, hlk, hown, hts, hK, hr, hi⟩ := hB
  have hl : len = 3 := hlen.resolve_right (show ¬ ((3 : Nat) = 0) by decide)
  subst hl
  simp only [xm_ex] at hex
  split at hex
  · rename_i a r
    split at hex
    · rename_i ci k hf
      split at hex
      · rename_i hok
        cases hex
        obtain ⟨hc, hk, hlink⟩ := tb_f_w _ _ _ _ hf
        have := xm_nc
        obtain ⟨cell, g1, g2, g3, g4⟩ := xs_obj hN.2.1 hc hok
        obtain ⟨cf, kf, fi, f, hfi, hst, hsl, -⟩ := xs_fld hts hK hc hk
        simp only [List.map_cons, xm_v, xs_L (s0 := s0) (b := b) (show (E.1 a).1 ≠ 110 by rw [hok.1]; omega)]
        have hv : cell.slots[f.slot]? = some (xm_v (xm_a E s0.heap.size b) (xm_fv h a (tb_ft ci k) k)) := by rw [hsl]; exact g4 k hk
        rcases hlink with hlink | ⟨host, hlink⟩
        · exact W.getf hx hb hown (hts _ hlink) hfi hst g1 (by rw [g3]; exact fun z => by cases z) hv rfl rfl hd (kk _ _ _ _ _ hN)
        · exact va_Wgetf hx hb hown (hts _ hlink) hfi hst g1 (by rw [g3]; exact fun z => by cases z) hv rfl rfl hd (kk _ _ _ _ _ hN)
      · cases hex
    · cases hex
  · cases hex
theorem xs_pv {h h' : xm_H} {a : xm_I} {ci k : Nat} {v : xm_V} (hc : ci < tb_nc) (hk : k < tb_fn ci) (hp : xm_pv h a (tb_ft ci k) k v = some h') (L : xm_I → Nat) :
    h'.1 = h.1 ∧ (∀ a', a' ≠ a → h'.2.1 a' = h.2.1 a' ∧ h'.2.2.1 a' = h.2.2.1 a' ∧ h'.2.2.2 a' = h.2.2.2 a') ∧ (∀ i, i < tb_fn ci → updV (fun i => xm_v L (xm_fv h a (tb_ft ci i) i)) k (xm_v L v) i = xm_v L (xm_fv h' a (tb_ft ci i) i)) ∧
      narrow (tb_ty ci k) (xm_v L v) = xm_v L v ∧ fits (tb_ty ci k) (xm_v L v) = true := by
  have ne : ∀ {α : Type} (f : xm_I → Nat → α) (x : α) (a' : xm_I), a' ≠ a → xm_up f a k x a' = f a' := by
    intro α f x a' hne
    funext z
    exact if_neg (fun q => hne q.1)
  have hup : ∀ {α : Type} (f : xm_I → Nat → α) (x : α) (i : Nat), xm_up f a k x a i = if i = k then x else f a i := by
    intro α f x i
    show (if a = a ∧ i = k then x else f a i) = _
    by_cases hik : i = k
    · rw [if_pos ⟨rfl, hik⟩, if_pos hik]
    · rw [if_neg (fun q => hik q.2), if_neg hik]
  rcases tb_ft_ok ci hc k hk with ⟨t1, t2⟩ | ⟨t1, t2⟩ | ⟨t1, t2⟩ | ⟨t1, t2⟩
  · rw [t1] at hp
    rcases v with x | x | x
    · have e : xm_ui h a k x = h' := Option.some.inj hp
      subst e
      refine ⟨rfl, fun a' hne => ⟨ne _ _ _ hne, rfl, rfl⟩, fun i hi => ?_, by rw [t2]; rfl, by rw [t2]; rfl⟩
      show (if i = k then _ else _) = _
      by_cases hik : i = k
      · subst hik
        rw [if_pos rfl, t1]
        show Value.int x = .int (xm_up h.2.1 a i x a i)
        rw [hup, if_pos rfl]
      · rw [if_neg hik]
        have e : (xm_ui h a k x).2.1 a i = h.2.1 a i := by
          show xm_up h.2.1 a k x a i = _
          rw [hup, if_neg hik]
        show xm_v L (xm_fv h a _ i) = xm_v L (xm_fv (xm_ui h a k x) a _ i)
        unfold xm_fv
        first | (rw [e]; done) | (rw [e]; rfl)
    · cases hp
    · cases hp
  · rw [t1] at hp
    rcases v with x | x | x
    · have hp2 : (if x = 0 ∨ x = 1 then some (xm_ui h a k x) else none) = some h' := hp
      split at hp2
      · rename_i h01
        have e : xm_ui h a k x = h' := Option.some.inj hp2
        subst e
        refine ⟨rfl, fun a' hne => ⟨ne _ _ _ hne, rfl, rfl⟩, fun i hi => ?_, by rw [t2]; rcases h01 with rfl | rfl <;> rfl, by rw [t2]; rcases h01 with rfl | rfl <;> rfl⟩
        show (if i = k then _ else _) = _
        by_cases hik : i = k
        · subst hik
          rw [if_pos rfl, t1]
          show Value.int x = .int (xm_up h.2.1 a i x a i)
          rw [hup, if_pos rfl]
        · rw [if_neg hik]
          have e : (xm_ui h a k x).2.1 a i = h.2.1 a i := by
            show xm_up h.2.1 a k x a i = _
            rw [hup, if_neg hik]
          show xm_v L (xm_fv h a _ i) = xm_v L (xm_fv (xm_ui h a k x) a _ i)
          unfold xm_fv
          first | (rw [e]; done) | (rw [e]; rfl)
      · cases hp2
    · cases hp
    · cases hp
  · rw [t1] at hp
    rcases v with x | x | x
    · cases hp
    · have e : xm_ul h a k x = h' := Option.some.inj hp
      subst e
      refine ⟨rfl, fun a' hne => ⟨rfl, ne _ _ _ hne, rfl⟩, fun i hi => ?_, by rw [t2]; rfl, by rw [t2]; rfl⟩
      show (if i = k then _ else _) = _
      by_cases hik : i = k
      · subst hik
        rw [if_pos rfl, t1]
        show Value.long x = .long (xm_up h.2.2.1 a i x a i)
        rw [hup, if_pos rfl]
      · rw [if_neg hik]
        have e : (xm_ul h a k x).2.2.1 a i = h.2.2.1 a i := by
          show xm_up h.2.2.1 a k x a i = _
          rw [hup, if_neg hik]
        show xm_v L (xm_fv h a _ i) = xm_v L (xm_fv (xm_ul h a k x) a _ i)
        unfold xm_fv
        first | (rw [e]; done) | (rw [e]; rfl)
    · cases hp
  · rw [t1] at hp
    rcases v with x | x | x
    · cases hp
    · cases hp
    · have e : xm_ur h a k x = h' := Option.some.inj hp
      subst e
      refine ⟨rfl, fun a' hne => ⟨rfl, rfl, ne _ _ _ hne⟩, fun i hi => ?_, ?_, ?_⟩
      · show (if i = k then _ else _) = _
        by_cases hik : i = k
        · subst hik
          rw [if_pos rfl, t1]
          show _ = xm_v L (xm_q (xm_up h.2.2.2 a i x a i))
          rw [hup, if_pos rfl]
        · rw [if_neg hik]
          have e : (xm_ur h a k x).2.2.2 a i = h.2.2.2 a i := by
            show xm_up h.2.2.2 a k x a i = _
            rw [hup, if_neg hik]
          show xm_v L (xm_fv h a _ i) = xm_v L (xm_fv (xm_ur h a k x) a _ i)
          unfold xm_fv
          first | (rw [e]; done) | (rw [e]; rfl)
      · rcases t2 with ⟨z, hz⟩ | ⟨z, hz⟩ <;> rw [hz] <;> rcases x with _ | x <;> rfl
      · rcases t2 with ⟨z, hz⟩ | ⟨z, hz⟩ <;> rw [hz] <;> rcases x with _ | x <;> rfl
set_option maxHeartbeats 4000000 in
theorem xs_put (hE : xm_Eok E) (hb0 : b < s0.heap.size) (hB : xm_B p s m args meth c D cA j) {pc i : Nat} {lv : xm_L} {st : List xm_V} {h : xm_H} {len : Nat} (hd : decode (tb_cd j) pc = .ok (.putfield i, len)) (hlen : len = xm_len (.putfield i) ∨ xm_len (.putfield i) = 0) {q : xm_F} (hex : xm_ex E md j pc (.putfield i) len lv st h = some (.inl q))
    (kk : xm_Wd p l e R s m args below meth c Q D cA s0 b n xs E md h0 (tb_ml j) q.1 q.2.1 q.2.2.1 q.2.2.2) : xm_Wd p l e R s m args below meth c Q D cA s0 b n xs E md h0 (tb_ml j) pc lv st h := by
  intro ls H locs cells slots hN
  obtain ⟨hx, hb, hml, hlk, hown, hts, hK, hr, hi⟩ := hB
  have hl : len = 3 := hlen.resolve_right (show ¬ ((3 : Nat) = 0) by decide)
  subst hl
  simp only [xm_ex] at hex
  split at hex
  · rename_i v a r
    split at hex
    · rename_i ci k hf
      split at hex
      · rename_i hok
        obtain ⟨hok, hmd, hfn⟩ := hok
        split at hex
        · rename_i h' hpv
          cases hex
          obtain ⟨hc, hk, hlink⟩ := tb_f_w _ _ _ _ hf
          have hnc := xm_nc
          have h110 : (E.1 a).1 ≠ 110 := by rw [hok.1]; omega
          obtain ⟨cell, g1, g2, g3, g4⟩ := xs_obj hN.2.1 hc hok
          obtain ⟨cf, kf, fi, f, hfi, hst, hsl, hft, hf0, hf1⟩ := xs_fld hts hK hc hk
          obtain ⟨p1, p2, p3, p4, p5⟩ := xs_pv hc hk hpv (xm_a E s0.heap.size b)
          obtain ⟨n1, n2⟩ := hft _ p4 p5
          have hap := xs_apart hts hK hc
          simp only [List.map_cons, xm_v, xs_L (s0 := s0) (b := b) h110]
          have hfin : hasFlag f.accessFlags Acc.final = false ∨ (m.cls = cf ∧ meth.name = "<init>") := by
            rcases hfn with h9 | ⟨h9, h8⟩
            · exact Or.inl (hf0 h9)
            · cases hfi2 : tb_fin ci k with
              | false => exact Or.inl (hf0 hfi2)
              | true =>
                refine Or.inr ⟨?_, hi h9⟩
                have h7 := hf1 hfi2
                rw [h8, tb_cw_ok ci hc] at hown
                exact Option.some.inj (hown.symm.trans h7)
          have hlt : f.slot < cell.slots.size := by rw [hsl]; exact k2_hasslot (g4 k hk)
          have ha : s0.heap.size + E.2.1 a < H.size := (Array.getElem?_eq_some_iff.mp g1).1
          have hkn : cell.vm ≠ .unknown := by rw [g3]; exact fun z => by cases z
          have hfs : s.fitsSlot cell.cls cell.vm f.slot (xm_v (xm_a E s0.heap.size b) v) = true := by rw [g2, g3]; exact n2
          have go : W p l e R s m args below meth c (H.setIfInBounds (s0.heap.size + E.2.1 a) (cell.setSlot f.slot (xm_v (xm_a E s0.heap.size b) v))) (locs ++ [⟨s0.heap.size + E.2.1 a, f.slot⟩]) cells slots Q (F0 m (pc + 3) ls (r.map (xm_v (xm_a E s0.heap.size b)))) := by
            refine kk ls _ _ _ _ ⟨hN.1, ?_, by rw [p1]; exact hN.2.2.1, by rw [p1]; exact hN.2.2.2.1, ?_, fun z => by rw [hmd] at z; cases z⟩
            · refine xm_w_set (a := a) hE hb0 hN.2.1 hok.2 (by rw [hok.1]; omega) h110 (by simp) ?_ p1 p2 ?_
              · intro q hq
                rw [xs_L h110] at hq
                simp [Array.getElem?_setIfInBounds, Ne.symm hq]
              · refine ⟨fun _ => ?_, fun z => by rw [hok.1] at z; omega, fun z => by rw [hok.1] at z; omega, fun z => by rw [hok.1] at z; omega, fun z => by rw [hok.1] at z; omega⟩
                rw [hok.1, xs_L h110]
                refine t_OB.to (V := updV (fun i => xm_v (xm_a E s0.heap.size b) (xm_fv h a (tb_ft ci i) i)) k (xm_v (xm_a E s0.heap.size b) v)) ⟨cell.setSlot f.slot (xm_v (xm_a E s0.heap.size b) v), by simp [Array.getElem?_setIfInBounds, ha], g2, g3, ?_⟩ p3
                rw [hsl]
                exact t_set g4 hap hk _
            · intro z hz
              rcases List.mem_append.mp hz with h1 | h1
              · exact hN.2.2.2.2.1 z h1
              · rw [List.mem_singleton.mp h1]
                exact Nat.le_add_right _ _
          rcases hlink with hlink | ⟨host, hlink⟩
          · exact W.putf hx hb hown (hts _ hlink) hfi hst hfin g1 hkn hlt n1 hfs rfl rfl hd go
          · exact va_Wputf hx hb hown (hts _ hlink) hfi hst hfin g1 hkn hlt n1 hfs rfl rfl hd go
        · cases hex
      · cases hex
    · cases hex
  · cases hex
end XS
