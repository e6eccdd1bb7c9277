/-! What is sent and comes: the class's line against the reference's word. -/
def dC (φ : Int32) : Int32 := bI (if φ = (1 : Int32) then false else (if φ = (4 : Int32) then false else true))
def dF (p : Nat) (q ρ x φ : Int32) (α : Int64) : Int64 := if φ = (2 : Int32) then sp_120 (nI p) q ρ x ^^^ α else sp_120 (nI p) q ρ x
def dT (p : Nat) (ρ : Int32) (F : Int64) : Int32 := bI (if (bI (sp_118 F)) = 0 then false else (if (sp_121 F) = (nI p) then (if (sp_122 F) = ρ then true else false) else false))
/-- the line after a frame was sent -/
def dL (f : FI) (p : Nat) (q ρ x φ : Int32) (α : Int64) : Prop := f (2, 0, 0) 5 = nI p ∧ f (2, 0, 0) 6 = dC φ ∧ f (2, 0, 0) 7 = dT p ρ (dF p q ρ x φ α) ∧ f (2, 0, 0) 8 = sp_123 (dF p q ρ x φ α) ∧ f (2, 0, 0) 9 = sp_124 (dF p q ρ x φ α) ∧ f (2, 0, 0) 10 = (if φ = (3 : Int32) then sp_124 (dF p q ρ x φ α) ^^^ α.toInt32 else sp_124 (dF p q ρ x φ α))
theorem dL_38 (f : FI) (fl : FL) (p : Nat) (q x : Int32) : dL (sp_38 f fl p q x) p q (f (2, 0, 0) 4) x (f (3, 0, 0) p) (fl (4, 0, 0) p) := by
  unfold dL sp_38 dT dF dC
  simp [xm_up]
theorem dL_kp {f g : FI} {p : Nat} {q ρ x φ : Int32} {α : Int64} {L : List Nat} (h : dL f p q ρ x φ α) (k : kp L f g) (e : (L.contains 205 || L.contains 206 || L.contains 207 || L.contains 208 || L.contains 209 || L.contains 210) = false) : dL g p q ρ x φ α := by
  simp only [Bool.or_eq_false_iff] at e
  unfold dL at *
  rw [k (2, 0, 0) 5 e.1.1.1.1.1, k (2, 0, 0) 6 e.1.1.1.1.2, k (2, 0, 0) 7 e.1.1.1.2, k (2, 0, 0) 8 e.1.1.2, k (2, 0, 0) 9 e.1.2, k (2, 0, 0) 10 e.2]
  exact h
/-- the word that the reference carries to a receiver -/
def dW (φ : Int32) (α : Int64) (y : Int32) (F : Int64) : Int64 := if φ = (3 : Int32) ∧ (y - y / (2 : Int32) * (2 : Int32)) = (1 : Int32) then sp_74 (((F.toUInt64 >>> ((16 : Int32).toInt64.toUInt64 &&& Int64.toUInt64 63)).toInt64) ^^^ (α &&& (4294967295 : Int64))) else if φ = (2 : Int32) then F ^^^ α else F
theorem car_fi (g : FI) (gl : FL) (p : Nat) (y : Int32) (F : Int64) : (sp_75 g gl p y F).1 = xm_up g (20, 0, 0) 25 (dC (g (21, 9, 0) p)) := by
  unfold sp_75 dC
  (repeat' split) <;> rfl
theorem car_w (g : FI) (gl : FL) (p : Nat) (y : Int32) (F : Int64) : (sp_75 g gl p y F).2 (20, 0, 0) 26 = dW (g (21, 9, 0) p) (gl (21, 10, 0) p) y F := by
  unfold sp_75 dW
  rcases Classical.em (g (21, 9, 0) p = (2 : Int32)) with h2 | h2
  · simp [xm_up, h2, show ¬ (2 : Int32) = 3 by decide]
  · rcases Classical.em (g (21, 9, 0) p = (3 : Int32)) with h3 | h3
    · rcases Classical.em ((y - y / (2 : Int32) * (2 : Int32)) = (1 : Int32)) with h4 | h4
      · simp [xm_up, h3, h4, show ¬ (3 : Int32) = 2 by decide]
      · simp [xm_up, h3, h4, show ¬ (3 : Int32) = 2 by decide]
    · simp [xm_up, h2, h3]
theorem car_k (g : FI) (gl : FL) (p : Nat) (y : Int32) (F : Int64) {a : xm_I} {k : Nat} (h : ¬ (a = (20, 0, 0) ∧ k = 26)) : (sp_75 g gl p y F).2 a k = gl a k := by
  unfold sp_75
  (repeat' split) <;> simp only [up_ne _ _ h]
theorem par_o : ∀ k, k < 7 → ((nI k - nI k / (2 : Int32) * (2 : Int32)) = (1 : Int32) ↔ ¬ (nI k &&& (1 : Int32)) = 0) := by
  intro k hk
  have h := (by decide +kernel : ∀ k, k < 7 → decide ((nI k - nI k / (2 : Int32) * (2 : Int32)) = (1 : Int32)) = decide (¬ (nI k &&& (1 : Int32)) = 0)) k hk
  exact decide_eq_decide.mp h
theorem bt_nI_big : ∀ m, m < 256 → ∀ j, j < 32 → 8 ≤ j → bt (nI m) j = false := by
  intro m hm j hj h8
  show (BitVec.ofNat 32 m).getLsbD j = false
  rw [BitVec.getLsbD_ofNat, Nat.testBit_lt_two_pow (Nat.lt_of_lt_of_le hm (Nat.pow_le_pow_right (n := 2) (i := 8) (by decide) h8)), Bool.and_false]
theorem bt_nI_16 : ∀ m, m < 16 → ∀ j, j < 32 → 4 ≤ j → bt (nI m) j = false := by
  intro m hm j hj h4
  show (BitVec.ofNat 32 m).getLsbD j = false
  rw [BitVec.getLsbD_ofNat, Nat.testBit_lt_two_pow (Nat.lt_of_lt_of_le hm (Nat.pow_le_pow_right (n := 2) (i := 4) (by decide) h4)), Bool.and_false]
theorem made_small {p m r : Nat} (hp : p < 16) (hm : m < 16) (hr : r < 256) (x : Int32) : ∀ j, 48 ≤ j → lb ((((((nI p).toInt64) <<< ((44 : Int32).toInt64 &&& 63)) ||| (((nI m).toInt64) <<< ((40 : Int32).toInt64 &&& 63))) ||| (((nI r).toInt64) <<< ((32 : Int32).toInt64 &&& 63))) ||| ((x.toInt64) &&& (4294967295 : Int64))) j = false := by
  intro j hj
  rcases Nat.lt_or_ge j 64 with h | h
  · have a1 := lb_shl 44 (by omega) (nI p).toInt64 h
    have a2 := lb_shl 40 (by omega) (nI m).toInt64 h
    have a3 := lb_shl 32 (by omega) (nI r).toInt64 h
    rw [lb_or, lb_or, lb_or, show ((44 : Int32).toInt64 &&& 63) = ((nI 44).toInt64 &&& 63) from rfl, show ((40 : Int32).toInt64 &&& 63) = ((nI 40).toInt64 &&& 63) from rfl, show ((32 : Int32).toInt64 &&& 63) = ((nI 32).toInt64 &&& 63) from rfl, a1, a2, a3, lb_and, lb_mask j h, lb_toInt64 _ (by omega), lb_toInt64 _ (by omega), lb_toInt64 _ (by omega), if_pos (by omega), if_pos (by omega), if_pos (by omega), bt_nI_16 p hp _ (by omega) (by omega), bt_nI_16 m hm _ (by omega) (by omega), bt_nI_big r hr _ (by omega) (by omega), decide_eq_false (show ¬ j < 32 by omega)]
    simp
  · exact lb_big h
theorem made_sound {p m r : Nat} (hp : p < 16) (hm : m < 16) (hr : r < 256) (x : Int32) : sp_118 (sp_120 (nI p) (nI m) (nI r) x) = true := by
  rw [sound_eq, frame_eq]
  unfold sp_73
  exact sealed_sound (made_small hp hm hr x)
theorem bI0 (b : Bool) : bI b = 0 ↔ b = false := by cases b <;> decide
/-- what is due, and what it holds -/
theorem due_eq {f g : FI} {gl : FL} {p m r k : Nat} {x φ q' : Int32} {α : Int64} (hp : p < 16) (hm : m < 16) (hr : r < 256) (hk : k < 7) (hL : dL f p (nI m) (nI r) x φ α) (hg : g (20, 0, 0) 25 = dC φ) (hr3 : (g (20, 0, 0) 3) - (g (20, 0, 0) 3) / (256 : Int32) * (256 : Int32) = nI r) (hw : gl (20, 0, 0) 26 = dW φ α (nI k) (sp_120 (nI p) (nI m) (nI r) x)) :
    sp_76 g gl (nI p) q' = sp_40 f q' ∧ sp_78 gl = sp_41 f (nI k) := by
  obtain ⟨-, l6, l7, l8, l9, l10⟩ := hL
  -- the fields of a word
  have gen : ∀ w : Int64, gl (20, 0, 0) 26 = w → sp_76 g gl (nI p) q' = (if dC φ = 0 then false else (if sp_77 w = false then false else (if sp_121 w = nI p then (if sp_123 w = q' then (if sp_122 w = nI r then true else false) else false) else false))) := by
    intro w hw
    unfold sp_76
    rw [hw, hg, hr3]
    rcases Classical.em (dC φ = 0) with c1 | c1
    · rw [if_pos c1, if_pos c1]
    rw [if_neg c1, if_neg c1]
    rcases Classical.em (sp_77 w = false) with c2 | c2
    · rw [if_pos ((bI0 _).mpr c2), if_pos c2]
    rw [if_neg (fun z => c2 ((bI0 _).mp z)), if_neg c2]
    rcases Classical.em (sp_121 w = nI p) with c3 | c3
    · rw [if_pos ((snd_eq w _).mp c3), if_pos c3]
      rcases Classical.em (sp_123 w = q') with c4 | c4
      · rw [if_pos ((knd_eq w _).mp c4), if_pos c4]
        rcases Classical.em (sp_122 w = nI r) with c5 | c5
        · rw [if_pos ((rnd_eq w _).mp c5), if_pos c5]
        · rw [if_neg (fun z => c5 ((rnd_eq w _).mpr z)), if_neg c5]
      · rw [if_neg (fun z => c4 ((knd_eq w _).mpr z)), if_neg c4]
    · rw [if_neg (fun z => c3 ((snd_eq w _).mpr z)), if_neg c3]
  have due : sp_40 f q' = (if dC φ = 0 then false else (if sp_118 (dF p (nI m) (nI r) x φ α) = false then false else (if sp_121 (dF p (nI m) (nI r) x φ α) = nI p then (if sp_123 (dF p (nI m) (nI r) x φ α) = q' then (if sp_122 (dF p (nI m) (nI r) x φ α) = nI r then true else false) else false) else false))) := by
    unfold sp_40
    rw [l6, l7, l8]
    unfold dT
    generalize dF p (nI m) (nI r) x φ α = F
    rcases Classical.em (dC φ = 0) with c1 | c1
    · rw [if_pos c1, if_pos c1]
    rw [if_neg c1, if_neg c1]
    rcases Classical.em (sp_118 F = false) with c2 | c2
    · rw [if_pos ((bI0 _).mpr c2), if_pos c2]
      rfl
    rw [if_neg (fun z => c2 ((bI0 _).mp z)), if_neg c2]
    rcases Classical.em (sp_121 F = nI p) with c3 | c3
    · rw [if_pos c3, if_pos c3]
      rcases Classical.em (sp_122 F = nI r) with c5 | c5
      · repeat rw [if_pos c5]
        rfl
      · repeat rw [if_neg c5]
        rcases Classical.em (sp_123 F = q') with c4 | c4
        · repeat rw [if_pos c4]
          rfl
        · repeat rw [if_neg c4]
          rfl
    · rw [if_neg c3, if_neg c3]
      rfl
  rcases Classical.em (φ = (3 : Int32) ∧ ¬ (nI k &&& (1 : Int32)) = 0) with h3 | h3
  · -- a second face
    obtain ⟨h3, hodd⟩ := h3
    have hF : dF p (nI m) (nI r) x φ α = sp_120 (nI p) (nI m) (nI r) x := if_neg (by rw [h3]; decide)
    have hW : dW φ α (nI k) (sp_120 (nI p) (nI m) (nI r) x) = sp_74 ((((sp_120 (nI p) (nI m) (nI r) x).toUInt64 >>> ((16 : Int32).toInt64.toUInt64 &&& Int64.toUInt64 63)).toInt64) ^^^ (α &&& (4294967295 : Int64))) := if_pos ⟨h3, (par_o k hk).mpr hodd⟩
    rw [hW] at hw
    rw [hF] at due l9 l10
    have hs : sp_118 (sp_120 (nI p) (nI m) (nI r) x) = true := made_sound hp hm hr x
    generalize sp_120 (nI p) (nI m) (nI r) x = F at *
    generalize hb : (((F.toUInt64 >>> ((16 : Int32).toInt64.toUInt64 &&& Int64.toUInt64 63)).toInt64) ^^^ (α &&& (4294967295 : Int64))) = b at *
    have hbb : ∀ i, i < 64 → lb b i = (lb F (16 + i) ^^ (lb α i && decide (i < 32))) := by
      intro i hi
      have a := lb_ushr 16 (by omega) F i
      rw [← hb, lb_xor, lb_and, lb_mask i hi, show ((16 : Int32).toInt64.toUInt64 &&& Int64.toUInt64 63) = ((nI 16).toInt64.toUInt64 &&& Int64.toUInt64 63) from rfl, a]
    have hb48 : ∀ j, 48 ≤ j → lb b j = false := by
      intro j hj
      rcases Nat.lt_or_ge j 64 with h | h
      · rw [hbb j h, lb_big (by omega), decide_eq_false (by omega)]
        simp
      · exact lb_big h
    have hwb : ∀ j, 16 ≤ j → j < 64 → lb (sp_74 b) j = lb b (j - 16) := by
      intro j h1 h2
      have hsx : ∀ i, i < 64 → lb (b <<< ((nI 16).toInt64 &&& 63)) i = (decide (16 ≤ i) && lb b (i - 16)) := fun i hi => lb_shl 16 (by omega) b hi
      rw [sealed_lb (b <<< ((nI 16).toInt64 &&& 63)) b (fun j h1 h2 => by rw [hsx j h2, decide_eq_true h1, Bool.true_and]) h2, if_neg (by omega)]
    have hh : ∀ j, 48 ≤ j → j < 64 → lb (sp_74 b) j = lb F j := by
      intro j h1 h2
      rw [hwb j (by omega) h2, hbb _ (by omega), decide_eq_false (by omega), show 16 + (j - 16) = j by omega]
      simp
    constructor
    · rw [gen _ hw, due, sealed_sound hb48, hs, hdr_121 hh, hdr_122 hh, hdr_123 hh]
    · unfold sp_78 sp_41
      rw [hw, if_neg hodd, l10, if_pos h3]
      apply bt_ext
      intro i hi
      have a := lb_ushr 16 (by omega) (sp_74 b) i
      rw [bt_xor, bt_toInt32 _ hi, bt_toInt32 α hi, show ((16 : Int32).toInt64.toUInt64 &&& Int64.toUInt64 63) = ((nI 16).toInt64.toUInt64 &&& Int64.toUInt64 63) from rfl, a, hwb _ (by omega) (by omega), hbb _ (by omega), decide_eq_true (by omega), show 16 + (16 + i - 16) = 16 + i by omega, Bool.and_true]
      unfold sp_124
      have a2 := lb_ushr 16 (by omega) F i
      rw [bt_toInt32 _ hi, show ((16 : Int32).toInt64.toUInt64 &&& Int64.toUInt64 63) = ((nI 16).toInt64.toUInt64 &&& Int64.toUInt64 63) from rfl, a2, show 16 + i - 16 = i by omega]
  · have hW : dW φ α (nI k) (sp_120 (nI p) (nI m) (nI r) x) = dF p (nI m) (nI r) x φ α := if_neg (fun z => h3 ⟨z.1, (par_o k hk).mp z.2⟩)
    rw [hW] at hw
    constructor
    · rw [gen _ hw, due, sound_eq]
    · unfold sp_78 sp_41
      rw [hw, l9, l10]
      show sp_124 _ = _
      rcases Classical.em ((nI k &&& (1 : Int32)) = 0) with h4 | h4
      · rw [if_pos h4]
      · rw [if_neg h4, if_neg (fun z => h3 ⟨z, h4⟩)]
