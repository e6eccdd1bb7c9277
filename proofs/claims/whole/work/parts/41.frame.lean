/-! Frames: made alike, and due alike. -/
theorem frame_eq (s q o x : Int32) : sp_120 s q o x = sp_73 s q o x := by
  unfold sp_120 sp_73
  generalize hO : ((((((s.toInt64) <<< ((60 : Int32).toInt64 &&& 63)) ||| ((q.toInt64) <<< ((56 : Int32).toInt64 &&& 63))) ||| ((o.toInt64) <<< ((48 : Int32).toInt64 &&& 63))) ||| (((x.toInt64) &&& (4294967295 : Int64)) <<< ((16 : Int32).toInt64 &&& 63)))) = O
  generalize hB : ((((((s.toInt64) <<< ((44 : Int32).toInt64 &&& 63)) ||| ((q.toInt64) <<< ((40 : Int32).toInt64 &&& 63))) ||| ((o.toInt64) <<< ((32 : Int32).toInt64 &&& 63))) ||| ((x.toInt64) &&& (4294967295 : Int64)))) = B
  have hb : ∀ j, j < 64 → lb O j = (decide (16 ≤ j) && lb B (j - 16)) := by
    intro j hj
    have a1 := lb_shl 60 (by omega) s.toInt64 hj
    have a2 := lb_shl 56 (by omega) q.toInt64 hj
    have a3 := lb_shl 48 (by omega) o.toInt64 hj
    have a4 := lb_shl 16 (by omega) (x.toInt64 &&& (4294967295 : Int64)) hj
    rw [← hO, lb_or, lb_or, lb_or, show ((60 : Int32).toInt64 &&& 63) = ((nI 60).toInt64 &&& 63) from rfl, show ((56 : Int32).toInt64 &&& 63) = ((nI 56).toInt64 &&& 63) from rfl, show ((48 : Int32).toInt64 &&& 63) = ((nI 48).toInt64 &&& 63) from rfl, show ((16 : Int32).toInt64 &&& 63) = ((nI 16).toInt64 &&& 63) from rfl, a1, a2, a3, a4]
    rcases Nat.lt_or_ge j 16 with h | h
    · simp [show ¬ 60 ≤ j by omega, show ¬ 56 ≤ j by omega, show ¬ 48 ≤ j by omega, show ¬ 16 ≤ j by omega]
    · have b1 := lb_shl 44 (by omega) s.toInt64 (show j - 16 < 64 by omega)
      have b2 := lb_shl 40 (by omega) q.toInt64 (show j - 16 < 64 by omega)
      have b3 := lb_shl 32 (by omega) o.toInt64 (show j - 16 < 64 by omega)
      rw [← hB, lb_or, lb_or, lb_or, show ((44 : Int32).toInt64 &&& 63) = ((nI 44).toInt64 &&& 63) from rfl, show ((40 : Int32).toInt64 &&& 63) = ((nI 40).toInt64 &&& 63) from rfl, show ((32 : Int32).toInt64 &&& 63) = ((nI 32).toInt64 &&& 63) from rfl, b1, b2, b3, decide_eq_true h]
      rw [show j - 16 - 44 = j - 60 by omega, show j - 16 - 40 = j - 56 by omega, show j - 16 - 32 = j - 48 by omega, show decide (44 ≤ j - 16) = decide (60 ≤ j) from decide_eq_decide.mpr ⟨fun h => by omega, fun h => by omega⟩, show decide (40 ≤ j - 16) = decide (56 ≤ j) from decide_eq_decide.mpr ⟨fun h => by omega, fun h => by omega⟩, show decide (32 ≤ j - 16) = decide (48 ≤ j) from decide_eq_decide.mpr ⟨fun h => by omega, fun h => by omega⟩, Bool.true_and, Bool.true_and]
  apply lb_ext
  intro j hj
  rw [lb_or, crc_l O hj, sealed_lb O B (fun j h1 h2 => by rw [hb j h2, decide_eq_true h1, Bool.true_and]) hj, hb j hj]
  split
  · next h => rw [decide_eq_false (by omega), Bool.false_and, Bool.false_or]
  · next h => rw [decide_eq_true (by omega), crc_lt O (by omega), Bool.true_and, Bool.or_false]
/-- what is small is the same as an int and as a long -/
theorem small_eq {X : Int64} (h : ∀ i, 31 ≤ i → i < 64 → lb X i = false) (y : Int32) : X.toInt32 = y ↔ lg_cmp X y.toInt64 = 0 := by
  rw [lg_0]
  constructor
  · intro e
    apply lb_ext
    intro j hj
    rw [lb_toInt64 y hj, ← e]
    split
    · next h2 => rw [bt_toInt32 X h2]
    · next h2 => rw [bt_toInt32 X (by omega), h 31 (by omega) (by omega), h j (by omega) hj]
  · intro e
    apply bt_ext
    intro j hj
    rw [bt_toInt32 X hj, e, lb_toInt64 y (by omega), if_pos hj]
theorem lb_255 : ∀ i, i < 64 → lb 255 i = decide (i < 8) := by decide +kernel
theorem lb_15 : ∀ i, i < 64 → lb 15 i = decide (i < 4) := by decide +kernel
theorem bt_255 : ∀ i, i < 32 → bt 255 i = decide (i < 8) := by decide +kernel
theorem lb_mask : ∀ i, i < 64 → lb 4294967295 i = decide (i < 32) := by decide +kernel
theorem snd_eq (w : Int64) (y : Int32) : sp_121 w = y ↔ lg_cmp (((w.toUInt64 >>> ((60 : Int32).toInt64.toUInt64 &&& Int64.toUInt64 63)).toInt64)) y.toInt64 = 0 := by
  unfold sp_121
  refine small_eq ?_ y
  intro i h1 h2
  have := lb_ushr 60 (by omega) w i
  rw [show ((60 : Int32).toInt64.toUInt64 &&& Int64.toUInt64 63) = ((nI 60).toInt64.toUInt64 &&& Int64.toUInt64 63) from rfl, this, lb_big (by omega)]
theorem knd_eq (w : Int64) (y : Int32) : sp_123 w = y ↔ lg_cmp ((((w.toUInt64 >>> ((56 : Int32).toInt64.toUInt64 &&& Int64.toUInt64 63)).toInt64)) &&& (15 : Int64)) y.toInt64 = 0 := by
  have e : sp_123 w = ((((w.toUInt64 >>> ((56 : Int32).toInt64.toUInt64 &&& Int64.toUInt64 63)).toInt64)) &&& (15 : Int64)).toInt32 := by
    unfold sp_123
    apply bt_ext
    intro i hi
    rw [bt_and, bt_toInt32 _ hi, bt_toInt32 _ hi, lb_and, bt_15 i hi, lb_15 i (by omega)]
  rw [e]
  refine small_eq ?_ y
  intro i h1 h2
  rw [lb_and, lb_15 i h2, decide_eq_false (by omega), Bool.and_false]
theorem rnd_eq (w : Int64) (y : Int32) : sp_122 w = y ↔ lg_cmp ((((w.toUInt64 >>> ((48 : Int32).toInt64.toUInt64 &&& Int64.toUInt64 63)).toInt64)) &&& (255 : Int64)) y.toInt64 = 0 := by
  have e : sp_122 w = ((((w.toUInt64 >>> ((48 : Int32).toInt64.toUInt64 &&& Int64.toUInt64 63)).toInt64)) &&& (255 : Int64)).toInt32 := by
    unfold sp_122
    apply bt_ext
    intro i hi
    rw [bt_and, bt_toInt32 _ hi, bt_toInt32 _ hi, lb_and, bt_255 i hi, lb_255 i (by omega)]
  rw [e]
  refine small_eq ?_ y
  intro i h1 h2
  rw [lb_and, lb_255 i h2, decide_eq_false (by omega), Bool.and_false]
/-- fields of the header go by the bits from 48 on -/
theorem hdr_121 {w F : Int64} (h : ∀ j, 48 ≤ j → j < 64 → lb w j = lb F j) : sp_121 w = sp_121 F := by
  unfold sp_121
  apply bt_ext
  intro i hi
  have a := lb_ushr 60 (by omega) w i
  have b := lb_ushr 60 (by omega) F i
  rw [show ((60 : Int32).toInt64.toUInt64 &&& Int64.toUInt64 63) = ((nI 60).toInt64.toUInt64 &&& Int64.toUInt64 63) from rfl, bt_toInt32 _ hi, bt_toInt32 _ hi, a, b]
  rcases Nat.lt_or_ge (60 + i) 64 with h2 | h2
  · exact h _ (by omega) h2
  · rw [lb_big h2, lb_big h2]
theorem hdr_122 {w F : Int64} (h : ∀ j, 48 ≤ j → j < 64 → lb w j = lb F j) : sp_122 w = sp_122 F := by
  unfold sp_122
  apply bt_ext
  intro i hi
  have a := lb_ushr 48 (by omega) w i
  have b := lb_ushr 48 (by omega) F i
  rw [show ((48 : Int32).toInt64.toUInt64 &&& Int64.toUInt64 63) = ((nI 48).toInt64.toUInt64 &&& Int64.toUInt64 63) from rfl, bt_and, bt_and, bt_toInt32 _ hi, bt_toInt32 _ hi, a, b]
  rcases Nat.lt_or_ge (48 + i) 64 with h2 | h2
  · rw [h _ (by omega) h2]
  · rw [lb_big h2, lb_big h2]
theorem hdr_123 {w F : Int64} (h : ∀ j, 48 ≤ j → j < 64 → lb w j = lb F j) : sp_123 w = sp_123 F := by
  unfold sp_123
  apply bt_ext
  intro i hi
  have a := lb_ushr 56 (by omega) w i
  have b := lb_ushr 56 (by omega) F i
  rw [show ((56 : Int32).toInt64.toUInt64 &&& Int64.toUInt64 63) = ((nI 56).toInt64.toUInt64 &&& Int64.toUInt64 63) from rfl, bt_and, bt_and, bt_toInt32 _ hi, bt_toInt32 _ hi, a, b]
  rcases Nat.lt_or_ge (56 + i) 64 with h2 | h2
  · rw [h _ (by omega) h2]
  · rw [lb_big h2, lb_big h2]
/-- what is sealed is sound -/
theorem sealed_sound {b : Int64} (h : ∀ j, 48 ≤ j → lb b j = false) : sp_77 (sp_74 b) = true := by
  have e : ((sp_74 b).toUInt64 >>> ((16 : Int32).toInt64.toUInt64 &&& Int64.toUInt64 63)).toInt64 = b := by
    apply lb_ext
    intro j hj
    have a := lb_ushr 16 (by omega) (sp_74 b) j
    rw [show ((16 : Int32).toInt64.toUInt64 &&& Int64.toUInt64 63) = ((nI 16).toInt64.toUInt64 &&& Int64.toUInt64 63) from rfl, a]
    rcases Nat.lt_or_ge j 48 with h2 | h2
    · have hs : ∀ i, i < 64 → lb (b <<< ((nI 16).toInt64 &&& 63)) i = (decide (16 ≤ i) && lb b (i - 16)) := fun i hi => lb_shl 16 (by omega) b hi
      rw [sealed_lb (b <<< ((nI 16).toInt64 &&& 63)) b (fun j h1 h2 => by rw [hs j h2, decide_eq_true h1, Bool.true_and]) (by omega), if_neg (by omega), show 16 + j - 16 = j by omega]
    · rw [lb_big (by omega), h j h2]
  unfold sp_77
  rw [e, if_pos (lg_0.mpr rfl)]
