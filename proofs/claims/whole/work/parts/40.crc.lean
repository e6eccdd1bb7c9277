/-! Check bits: the class takes four steps at a time, the reference one; both by their bits. -/
def lb (x : Int64) (i : Nat) : Bool := x.toBitVec.getLsbD i
def bt (x : Int32) (i : Nat) : Bool := x.toBitVec.getLsbD i
theorem lb_ext {x y : Int64} (h : ∀ i, i < 64 → lb x i = lb y i) : x = y := Int64.toBitVec_inj.mp (BitVec.eq_of_getLsbD_eq (fun i hi => h i hi))
theorem bt_ext {x y : Int32} (h : ∀ i, i < 32 → bt x i = bt y i) : x = y := Int32.toBitVec_inj.mp (BitVec.eq_of_getLsbD_eq (fun i hi => h i hi))
theorem lb_big {x : Int64} {i : Nat} (h : 64 ≤ i) : lb x i = false := BitVec.getLsbD_of_ge _ _ h
theorem bt_big {x : Int32} {i : Nat} (h : 32 ≤ i) : bt x i = false := BitVec.getLsbD_of_ge _ _ h
theorem lb_xor (x y : Int64) (i : Nat) : lb (x ^^^ y) i = (lb x i ^^ lb y i) := by unfold lb; rw [Int64.toBitVec_xor, BitVec.getLsbD_xor]
theorem lb_and (x y : Int64) (i : Nat) : lb (x &&& y) i = (lb x i && lb y i) := by unfold lb; rw [Int64.toBitVec_and, BitVec.getLsbD_and]
theorem lb_or (x y : Int64) (i : Nat) : lb (x ||| y) i = (lb x i || lb y i) := by unfold lb; rw [Int64.toBitVec_or, BitVec.getLsbD_or]
theorem bt_xor (x y : Int32) (i : Nat) : bt (x ^^^ y) i = (bt x i ^^ bt y i) := by unfold bt; rw [Int32.toBitVec_xor, BitVec.getLsbD_xor]
theorem bt_and (x y : Int32) (i : Nat) : bt (x &&& y) i = (bt x i && bt y i) := by unfold bt; rw [Int32.toBitVec_and, BitVec.getLsbD_and]
theorem bt_or (x y : Int32) (i : Nat) : bt (x ||| y) i = (bt x i || bt y i) := by unfold bt; rw [Int32.toBitVec_or, BitVec.getLsbD_or]
theorem sm_l : ∀ n, n < 32 → ((nI n &&& 31).toBitVec.smod 32).toNat = n := by decide +kernel
theorem sm_ll : ∀ n, n < 64 → (((nI n).toInt64 &&& 63).toBitVec.smod 64).toNat = n := by decide +kernel
theorem sm_lu : ∀ n, n < 64 → (((nI n).toInt64.toUInt64 &&& Int64.toUInt64 63).toBitVec % 64).toNat = n := by decide +kernel
theorem lb_shl (n : Nat) (hn : n < 64) (x : Int64) {i : Nat} (hi : i < 64) : lb (x <<< ((nI n).toInt64 &&& 63)) i = (decide (n ≤ i) && lb x (i - n)) := by
  unfold lb
  rw [Int64.toBitVec_shiftLeft]
  show (x.toBitVec <<< (((nI n).toInt64 &&& 63).toBitVec.smod 64).toNat).getLsbD i = _
  rw [sm_ll n hn, BitVec.getLsbD_shiftLeft]
  rcases Nat.lt_or_ge i n with h | h
  · simp [h, Nat.not_le.mpr h]
  · simp [hi, h, Nat.not_lt.mpr h]
theorem lb_ushr (n : Nat) (hn : n < 64) (x : Int64) (i : Nat) : lb ((x.toUInt64 >>> ((nI n).toInt64.toUInt64 &&& Int64.toUInt64 63)).toInt64) i = lb x (n + i) := by
  show (x.toUInt64 >>> ((nI n).toInt64.toUInt64 &&& Int64.toUInt64 63)).toBitVec.getLsbD i = x.toUInt64.toBitVec.getLsbD (n + i)
  rw [UInt64.toBitVec_shiftRight]
  show (x.toUInt64.toBitVec >>> (((nI n).toInt64.toUInt64 &&& Int64.toUInt64 63).toBitVec % 64).toNat).getLsbD i = _
  rw [sm_lu n hn, BitVec.getLsbD_ushiftRight]
theorem bt_shl (n : Nat) (hn : n < 32) (x : Int32) {i : Nat} (hi : i < 32) : bt (x <<< (nI n &&& 31)) i = (decide (n ≤ i) && bt x (i - n)) := by
  unfold bt
  rw [Int32.toBitVec_shiftLeft]
  show (x.toBitVec <<< ((nI n &&& 31).toBitVec.smod 32).toNat).getLsbD i = _
  rw [sm_l n hn, BitVec.getLsbD_shiftLeft]
  rcases Nat.lt_or_ge i n with h | h
  · simp [h, Nat.not_le.mpr h]
  · simp [hi, h, Nat.not_lt.mpr h]
theorem bt_shr (n : Nat) (hn : n < 32) (x : Int32) {i : Nat} (hi : i < 32) : bt (x >>> (nI n &&& 31)) i = if n + i < 32 then bt x (n + i) else bt x 31 := by
  unfold bt
  rw [Int32.toBitVec_shiftRight]
  show (x.toBitVec.sshiftRight ((nI n &&& 31).toBitVec.smod 32).toNat).getLsbD i = _
  rw [sm_l n hn, BitVec.getLsbD_sshiftRight, BitVec.msb_eq_getLsbD_last]
  simp [hi]
theorem bt_toInt32 (x : Int64) {i : Nat} (hi : i < 32) : bt x.toInt32 i = lb x i := by
  unfold bt lb
  rw [Int64.toBitVec_toInt32, BitVec.getLsbD_signExtend]
  simp [hi, show i < 64 by omega]
theorem lb_toInt64 (x : Int32) {i : Nat} (hi : i < 64) : lb x.toInt64 i = if i < 32 then bt x i else bt x 31 := by
  unfold bt lb
  rw [Int32.toBitVec_toInt64, BitVec.getLsbD_signExtend, BitVec.msb_eq_getLsbD_last]
  simp [hi]
theorem lg_0 {x y : Int64} : lg_cmp x y = 0 ↔ x = y := by
  unfold lg_cmp
  constructor
  · intro h
    split at h
    · exact absurd h (by decide)
    · split at h
      · assumption
      · exact absurd h (by decide)
  · intro h
    subst h
    rw [if_neg (by exact Int64.lt_irrefl), if_pos rfl]
theorem lb_1 : ∀ i, i < 64 → lb 1 i = decide (i = 0) := by decide +kernel
theorem lb_65535 : ∀ i, i < 64 → lb 65535 i = decide (i < 16) := by decide +kernel
theorem lb_69665 : ∀ i, i < 64 → lb 69665 i = decide (i = 0 ∨ i = 5 ∨ i = 12 ∨ i = 16) := by decide +kernel
theorem bt_15 : ∀ i, i < 32 → bt 15 i = decide (i < 4) := by decide +kernel
theorem bt_65535 : ∀ i, i < 32 → bt 65535 i = decide (i < 16) := by decide +kernel
theorem lb_bit (x : Int64) {k : Nat} (hk : k < 64) : (lg_cmp (((x.toUInt64 >>> ((nI k).toInt64.toUInt64 &&& Int64.toUInt64 63)).toInt64) &&& (1 : Int64)) (1 : Int64)) = 0 ↔ lb x k = true := by
  rw [lg_0]
  constructor
  · intro h
    have e : lb (((x.toUInt64 >>> ((nI k).toInt64.toUInt64 &&& Int64.toUInt64 63)).toInt64) &&& (1 : Int64)) 0 = lb 1 0 := by rw [h]
    rw [lb_and, lb_ushr k hk, lb_1 0 (by omega)] at e
    simpa using e
  · intro h
    apply lb_ext
    intro i hi
    rw [lb_and, lb_ushr k hk, lb_1 i hi]
    rcases Nat.eq_zero_or_pos i with h0 | h0
    · subst h0
      simp [h]
    · simp [show ¬ i = 0 by omega]
/-- one step of the reference -/
theorem st_74 (x : Int64) {i : Nat} (hi : i < 48) {j : Nat} (hj : j < 64) : lb (sp_74_13 i x) j = (lb x j ^^ (lb x (63 - i) && decide (j + 16 = 63 - i ∨ j + 11 = 63 - i ∨ j + 4 = 63 - i ∨ j = 63 - i))) := by
  have e : nI (63 - i) - 16 = nI (47 - i) := by
    obtain ⟨m, hm⟩ : ∃ m, 63 - i = m + 16 := ⟨47 - i, by omega⟩
    rw [hm, ← nI_add, show (16 : Int32) = nI 16 from rfl, Int32.add_sub_cancel]
    congr 1
    omega
  unfold sp_74_13
  rcases Bool.eq_false_or_eq_true (lb x (63 - i)) with h | h
  · rw [if_pos ((lb_bit x (by omega)).mpr h), lb_xor, e, lb_shl (47 - i) (by omega) _ hj, h]
    congr 1
    rcases Nat.lt_or_ge j (47 - i) with h1 | h1
    · rw [decide_eq_false (by omega), Bool.false_and, Bool.true_and, decide_eq_false (by omega)]
    · rw [decide_eq_true h1, Bool.true_and, Bool.true_and, lb_69665 _ (by omega)]
      congr 1
      apply propext
      constructor <;> intro h <;> omega
  · rw [if_neg (fun z => by rw [(lb_bit x (by omega)).mp z] at h; cases h), h]
    simp
theorem mul_bits : ∀ t, t < 16 → ∀ j, j < 32 → bt (nI t * 4129) j = (((decide (j < 4) && bt (nI t) j) ^^ (decide (5 ≤ j ∧ j < 9) && bt (nI t) (j - 5))) ^^ (decide (12 ≤ j ∧ j < 16) && bt (nI t) (j - 12))) := by decide +kernel
theorem nib_of (y : Int32) : ∃ t, t < 16 ∧ y &&& 15 = nI t := by
  refine ⟨y.toBitVec.toNat % 16, Nat.mod_lt _ (by decide), ?_⟩
  apply Int32.toBitVec_inj.mp
  apply BitVec.eq_of_toNat_eq
  rw [Int32.toBitVec_and, BitVec.toNat_and]
  show y.toBitVec.toNat &&& 15 = (BitVec.ofNat 32 (y.toBitVec.toNat % 16)).toNat
  rw [BitVec.toNat_ofNat, Nat.mod_eq_of_lt (Nat.lt_trans (Nat.mod_lt _ (by decide)) (by decide))]
  exact Nat.and_two_pow_sub_one_eq_mod (n := 4) _
/-- one step of the class -/
theorem st_119 (f : Int64) {i : Nat} (hi : i < 12) (c : Int32) (hc : ∀ j, 16 ≤ j → bt c j = false) {j : Nat} (hj : j < 32) : bt (sp_119_6 f i c) j = (((decide (4 ≤ j ∧ j < 16) && bt c (j - 4)) ^^ (decide (j < 4) && (bt c (12 + j) ^^ lb f (60 - 4 * i + j)))) ^^ ((decide (5 ≤ j ∧ j < 9) && (bt c (12 + (j - 5)) ^^ lb f (60 - 4 * i + (j - 5)))) ^^ (decide (12 ≤ j ∧ j < 16) && (bt c (12 + (j - 12)) ^^ lb f (60 - 4 * i + (j - 12)))))) := by
  unfold sp_119_6
  obtain ⟨t, ht, e⟩ := nib_of ((c >>> ((12 : Int32) &&& 31)) ^^^ (((f.toUInt64 >>> ((nI (60 - 4 * i)).toInt64.toUInt64 &&& Int64.toUInt64 63)).toInt64).toInt32))
  have hb : ∀ m, m < 4 → bt (nI t) m = (bt c (12 + m) ^^ lb f (60 - 4 * i + m)) := by
    intro m hm
    rw [← e, bt_and, bt_xor, bt_15 m (by omega), decide_eq_true hm, Bool.and_true, bt_toInt32 _ (by omega), lb_ushr _ (by omega)]
    have h2 := bt_shr 12 (by omega) c (show m < 32 by omega)
    rw [if_pos (by omega)] at h2
    rw [show ((12 : Int32) &&& 31) = (nI 12 &&& 31) from rfl, h2]
  rw [bt_xor, e, mul_bits t ht j hj, bt_and, bt_65535 j hj]
  have h3 := bt_shl 4 (by omega) c hj
  rw [show ((4 : Int32) &&& 31) = (nI 4 &&& 31) from rfl, h3]
  rcases Nat.lt_or_ge j 4 with h | h
  · rw [hb j h]
    simp [h, show ¬ 4 ≤ j by omega, show ¬ 5 ≤ j by omega, show ¬ 12 ≤ j by omega]
  · rcases Nat.lt_or_ge j 16 with h16 | h16
    · rcases Classical.em (5 ≤ j ∧ j < 9) with h5 | h5
      · rw [hb (j - 5) (by omega)]
        simp [h, h16, h5, show ¬ j < 4 by omega, show ¬ 12 ≤ j by omega]
      · rcases Classical.em (12 ≤ j) with h12 | h12
        · rw [hb (j - 12) (by omega)]
          simp [h, h16, h12, h5, show ¬ j < 4 by omega]
        · simp [h, h16, h12, h5, show ¬ j < 4 by omega]
    · simp [show ¬ j < 16 by omega, show ¬ j < 4 by omega, show ¬ (5 ≤ j ∧ j < 9) by omega]
theorem cs_119 (f : Int64) : ∀ i, i ≤ 12 → ∀ j, 16 ≤ j → bt (lq_it i (sp_119_6 f) (65535 : Int32)) j = false := by
  intro i
  induction i with
  | zero =>
    intro _ j hj
    rcases Nat.lt_or_ge j 32 with h | h
    · show bt 65535 j = false
      rw [bt_65535 j h]
      exact decide_eq_false (by omega)
    · exact bt_big h
  | succ i ih =>
    intro hi j hj
    rcases Nat.lt_or_ge j 32 with h | h
    · show bt (sp_119_6 f i (lq_it i (sp_119_6 f) 65535)) j = false
      rw [st_119 f (by omega) _ (ih (by omega)) h]
      simp [show ¬ j < 16 by omega, show ¬ j < 4 by omega, show ¬ (5 ≤ j ∧ j < 9) by omega]
    · exact bt_big h
theorem cs_step (f x : Int64) (c : Int32) {i a : Nat} (ha : 4 * i + a = 44) (hc : ∀ j, 16 ≤ j → bt c j = false) (h : ∀ j, j < a + 20 → lb x j = ((decide (16 ≤ j) && lb f j) ^^ (decide (a + 4 ≤ j) && bt c (j - (a + 4))))) :
    ∀ j, j < a + 16 → lb (sp_74_13 (4 * i + 3) (sp_74_13 (4 * i + 2) (sp_74_13 (4 * i + 1) (sp_74_13 (4 * i) x)))) j = ((decide (16 ≤ j) && lb f j) ^^ (decide (a ≤ j) && bt (sp_119_6 f i c) (j - a))) := by
  have s0 : ∀ (y : Int64) (m : Nat), m < 4 → ∀ j, j < 64 → lb (sp_74_13 (4 * i + m) y) j = (lb y j ^^ (lb y (a + 19 - m) && decide (j + m = a + 3 ∨ j + m = a + 8 ∨ j + m = a + 15 ∨ j + m = a + 19))) := by
    intro y m hm j hj
    rw [st_74 y (by omega) hj, show 63 - (4 * i + m) = a + 19 - m by omega]
    congr 2
    exact decide_eq_decide.mpr ⟨fun h => by omega, fun h => by omega⟩
  have t : ∀ m, m < 4 → lb x (a + 16 + m) = (bt c (12 + m) ^^ lb f (60 - 4 * i + m)) := by
    intro m hm
    rw [h _ (by omega), decide_eq_true (by omega), decide_eq_true (by omega), Bool.true_and, Bool.true_and, Bool.xor_comm, show a + 16 + m - (a + 4) = 12 + m by omega, show 60 - 4 * i + m = a + 16 + m by omega]
  intro j hj
  have e3 := s0 (sp_74_13 (4 * i + 2) (sp_74_13 (4 * i + 1) (sp_74_13 (4 * i) x))) 3 (by omega) j (by omega)
  rw [e3]
  have e2 : ∀ j, j < 64 → lb (sp_74_13 (4 * i + 2) (sp_74_13 (4 * i + 1) (sp_74_13 (4 * i) x))) j = _ := s0 (sp_74_13 (4 * i + 1) (sp_74_13 (4 * i) x)) 2 (by omega)
  have e1 : ∀ j, j < 64 → lb (sp_74_13 (4 * i + 1) (sp_74_13 (4 * i) x)) j = _ := s0 (sp_74_13 (4 * i) x) 1 (by omega)
  have e0 : ∀ j, j < 64 → lb (sp_74_13 (4 * i) x) j = _ := s0 x 0 (by omega)
  have b3 : lb x (a + 19 - 0) = lb x (a + 16 + 3) := rfl
  have b2 : lb (sp_74_13 (4 * i) x) (a + 19 - 1) = lb x (a + 16 + 2) := by
    rw [e0 _ (by omega), show a + 19 - 1 = a + 16 + 2 by omega, decide_eq_false (by omega)]
    simp
  have b1 : lb (sp_74_13 (4 * i + 1) (sp_74_13 (4 * i) x)) (a + 19 - 2) = lb x (a + 16 + 1) := by
    rw [e1 _ (by omega), e0 _ (by omega), show a + 19 - 2 = a + 16 + 1 by omega, decide_eq_false (by omega), decide_eq_false (by omega)]
    simp
  have b0 : lb (sp_74_13 (4 * i + 2) (sp_74_13 (4 * i + 1) (sp_74_13 (4 * i) x))) (a + 19 - 3) = lb x (a + 16 + 0) := by
    rw [e2 _ (by omega), e1 _ (by omega), e0 _ (by omega), show a + 19 - 3 = a + 16 + 0 by omega, decide_eq_false (by omega), decide_eq_false (by omega), decide_eq_false (by omega)]
    simp
  rw [b0, e2 j (by omega), b1, e1 j (by omega), b2, e0 j (by omega), b3, t 0 (by omega), t 1 (by omega), t 2 (by omega), t 3 (by omega), h j (by omega)]
  rcases Nat.lt_or_ge j a with hja | hja
  · have d : ∀ m, m < 4 → decide (j + m = a + 3 ∨ j + m = a + 8 ∨ j + m = a + 15 ∨ j + m = a + 19) = false := by
      intro m hm
      exact decide_eq_false (by omega)
    rw [d 0 (by omega), d 1 (by omega), d 2 (by omega), d 3 (by omega), decide_eq_false (show ¬ a ≤ j by omega), decide_eq_false (show ¬ a + 4 ≤ j by omega)]
    simp
  · obtain ⟨q, rfl⟩ : ∃ q, j = a + q := ⟨j - a, by omega⟩
    have d : ∀ m, m < 4 → decide (a + q + m = a + 3 ∨ a + q + m = a + 8 ∨ a + q + m = a + 15 ∨ a + q + m = a + 19) = decide (q + m = 3 ∨ q + m = 8 ∨ q + m = 15 ∨ q + m = 19) := by
      intro m hm
      exact decide_eq_decide.mpr ⟨fun h => by omega, fun h => by omega⟩
    rw [d 0 (by omega), d 1 (by omega), d 2 (by omega), d 3 (by omega), show a + q - a = q by omega, st_119 f (by omega) c hc (show q < 32 by omega), show a + q - (a + 4) = q - 4 by omega, decide_eq_true hja, show decide (a + 4 ≤ a + q) = decide (4 ≤ q) from decide_eq_decide.mpr ⟨fun h => by omega, fun h => by omega⟩]
    generalize hT : (fun m => (bt c (12 + m) ^^ lb f (60 - 4 * i + m))) = T
    have u : ∀ m, (bt c (12 + m) ^^ lb f (60 - 4 * i + m)) = T m := fun m => by rw [← hT]
    rw [u 0, u 1, u 2, u 3, u q, u (q - 5), u (q - 12)]
    generalize (decide (16 ≤ a + q) && lb f (a + q)) = z
    generalize bt c (q - 4) = y
    have hq : q = 0 ∨ q = 1 ∨ q = 2 ∨ q = 3 ∨ q = 4 ∨ q = 5 ∨ q = 6 ∨ q = 7 ∨ q = 8 ∨ q = 9 ∨ q = 10 ∨ q = 11 ∨ q = 12 ∨ q = 13 ∨ q = 14 ∨ q = 15 := by omega
    clear u hT hj hja d e3 e2 e1 e0 b3 b2 b1 b0 s0 t h
    rcases hq with rfl | rfl | rfl | rfl | rfl | rfl | rfl | rfl | rfl | rfl | rfl | rfl | rfl | rfl | rfl | rfl <;> simp only [Nat.reduceAdd, Nat.reduceSub, Nat.reduceLeDiff, Nat.reduceLT, Nat.reduceEqDiff] <;> generalize T 0 = t0 <;> generalize T 1 = t1 <;> generalize T 2 = t2 <;> generalize T 3 = t3 <;> cases t0 <;> cases t1 <;> cases t2 <;> cases t3 <;> cases z <;> cases y <;> simp
/-- the check bits agree -/
theorem cs_all (f b : Int64) (hf : ∀ j, 16 ≤ j → j < 64 → lb f j = lb b (j - 16)) : ∀ i, i ≤ 12 → ∀ j, j < 64 - 4 * i → lb (lq_it (4 * i) sp_74_13 ((b ^^^ (281470681743360 : Int64)) <<< ((16 : Int32).toInt64 &&& 63))) j = ((decide (16 ≤ j) && lb f j) ^^ (decide (48 - 4 * i ≤ j) && bt (lq_it i (sp_119_6 f) (65535 : Int32)) (j - (48 - 4 * i)))) := by
  have hK : ∀ j, j < 64 → lb 281470681743360 j = decide (32 ≤ j ∧ j < 48) := by decide +kernel
  intro i
  induction i with
  | zero =>
    intro _ j hj
    show lb ((b ^^^ (281470681743360 : Int64)) <<< ((16 : Int32).toInt64 &&& 63)) j = ((decide (16 ≤ j) && lb f j) ^^ (decide (48 ≤ j) && bt 65535 (j - 48)))
    have h1 := lb_shl 16 (by omega) (b ^^^ (281470681743360 : Int64)) (show j < 64 by omega)
    rw [show ((16 : Int32).toInt64 &&& 63) = ((nI 16).toInt64 &&& 63) from rfl, h1, lb_xor]
    rcases Nat.lt_or_ge j 16 with h | h
    · simp [show ¬ 16 ≤ j by omega, show ¬ 48 ≤ j by omega]
    · rw [hf j h (by omega), hK _ (by omega), bt_65535 _ (by omega), decide_eq_true h]
      rcases Nat.lt_or_ge j 48 with h2 | h2
      · simp [show ¬ 48 ≤ j by omega, show ¬ 32 ≤ j - 16 by omega]
      · simp [h2, show 32 ≤ j - 16 by omega, show j - 16 < 48 by omega, show j - 48 < 16 by omega]
  | succ i ih =>
    intro hi j hj
    have h1 := cs_step f (lq_it (4 * i) sp_74_13 ((b ^^^ (281470681743360 : Int64)) <<< ((16 : Int32).toInt64 &&& 63))) (lq_it i (sp_119_6 f) (65535 : Int32)) (i := i) (a := 44 - 4 * i) (by omega) (cs_119 f i (by omega)) (fun j hj => by
      rw [ih (by omega) j (by omega), show 48 - 4 * i = 44 - 4 * i + 4 by omega]) j (by omega)
    rw [show 48 - 4 * (i + 1) = 44 - 4 * i by omega]
    exact h1
theorem sealed_lb (f b : Int64) (hf : ∀ j, 16 ≤ j → j < 64 → lb f j = lb b (j - 16)) {j : Nat} (hj : j < 64) : lb (sp_74 b) j = if j < 16 then bt (sp_119 f) j else lb b (j - 16) := by
  unfold sp_74
  have h1 := lb_shl 16 (by omega) b hj
  rw [lb_or, show ((16 : Int32).toInt64 &&& 63) = ((nI 16).toInt64 &&& 63) from rfl, h1, lb_and, lb_65535 j hj]
  rcases Nat.lt_or_ge j 16 with h | h
  · rw [if_pos h]
    have h2 := cs_all f b hf 12 (by omega) j (by omega)
    rw [show ((16 : Int32).toInt64 &&& 63) = ((nI 16).toInt64 &&& 63) from rfl] at h2
    rw [show (48 : Nat) = 4 * 12 from rfl, h2]
    simp [h, show ¬ 16 ≤ j by omega]
    rfl
  · rw [if_neg (by omega)]
    simp [h, show ¬ j < 16 by omega]
theorem crc_lt (f : Int64) {j : Nat} (hj : 16 ≤ j) : bt (sp_119 f) j = false := cs_119 f 12 (by omega) j hj
theorem crc_l (f : Int64) {j : Nat} (hj : j < 64) : lb (sp_119 f).toInt64 j = bt (sp_119 f) j := by
  rw [lb_toInt64 _ hj]
  split
  · rfl
  · rw [crc_lt f (by omega), crc_lt f (by omega)]
/-- a frame is sound to the class where it is to the reference -/
theorem sound_eq (f : Int64) : sp_118 f = sp_77 f := by
  have key : lg_cmp (f &&& (65535 : Int64)) ((sp_119 f).toInt64) = 0 ↔ lg_cmp (sp_74 ((f.toUInt64 >>> ((16 : Int32).toInt64.toUInt64 &&& Int64.toUInt64 63)).toInt64)) f = 0 := by
    have hs : ∀ j, j < 64 → lb (sp_74 ((f.toUInt64 >>> ((16 : Int32).toInt64.toUInt64 &&& Int64.toUInt64 63)).toInt64)) j = if j < 16 then bt (sp_119 f) j else lb f j := by
      intro j hj
      have hb : ∀ i, lb ((f.toUInt64 >>> ((16 : Int32).toInt64.toUInt64 &&& Int64.toUInt64 63)).toInt64) i = lb f (16 + i) := fun i => lb_ushr 16 (by omega) f i
      rw [sealed_lb f _ (fun j h1 h2 => by rw [hb, show 16 + (j - 16) = j by omega]) hj, hb]
      split
      · rfl
      · rw [show 16 + (j - 16) = j by omega]
    rw [lg_0, lg_0]
    constructor
    · intro h
      apply lb_ext
      intro j hj
      rw [hs j hj]
      split
      · next h16 =>
        have e : lb (f &&& (65535 : Int64)) j = lb ((sp_119 f).toInt64) j := by rw [h]
        rw [lb_and, lb_65535 j hj, decide_eq_true h16, Bool.and_true, crc_l f hj] at e
        exact e.symm
      · rfl
    · intro h
      apply lb_ext
      intro j hj
      rw [lb_and, lb_65535 j hj, crc_l f hj]
      rcases Nat.lt_or_ge j 16 with h16 | h16
      · have e := hs j hj
        rw [h, if_pos h16] at e
        rw [e, decide_eq_true h16, Bool.and_true]
      · rw [crc_lt f h16, decide_eq_false (by omega), Bool.and_false]
  unfold sp_118 sp_77
  rcases Classical.em (lg_cmp (f &&& (65535 : Int64)) ((sp_119 f).toInt64) = 0) with h | h
  · rw [if_pos h, if_pos (key.mp h)]
  · rw [if_neg h, if_neg (fun z => h (key.mpr z))]
