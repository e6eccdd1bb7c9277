/-! A turn of the law loop, a line each. Written by wip/whole/prog. -/
theorem sh_up {n : Nat} {E : xm_E} {c : Nat × Nat} {r : xm_I → Nat → Option xm_I} (hs : sh n E c r) : sh n E (c.1 + 1, c.2 + 6) r := ⟨hs.1, fun q hq => ⟨(hs.2.1 q hq).1, Nat.lt_succ_of_lt (hs.2.1 q hq).2⟩, hs.2.2⟩
theorem lw_go {L i : Nat} (hi : i + 5 ≤ L) (hL : L < 100000) : ¬ nI L - 5 < nI i := by
  obtain ⟨m, rfl⟩ : ∃ m, L = m + 5 := ⟨L - 5, by omega⟩
  rw [← nI_add, show (5 : Int32) = nI 5 from rfl, Int32.add_sub_cancel]
  exact nI_nlt (by omega) (by omega)
theorem lw_0_v {n : Nat} {E : xm_E} {c : Nat × Nat} {fi : FI} {fl : FL} {r : xm_I → Nat → Option xm_I} {L i : Nat} {xs : Nat → Int32} {p : Nat} {R : xm_O} (hs : sh n E c r) (hf : fz n fi) (hB : BZ fi) (hsc : E.1 (40, 0, 0) = (110, L)) (hL : L < 100000) (hi : i + 5 ≤ L) (hxs : ∀ j, j < L → fi (40, 0, 0) j = xs j) (hop : xs i &&& 31 = 0) (ho1 : xs (i + 1) = nI p) (hp : p < n) (g0 : (lg_cmp ((xm_up fl (30, 0, 0) 0 ((fi (7, p, 0) 2).toInt64)) (30, 0, 0) 0) (((xm_up fi (7, p, 0) 2 (xs (i + 2))) (21, 8, 0) p).toInt64)) = 0) (K : ∀ u5 u6 u7 : Option xm_V, xm_G E 8 true 145 43 [some (xm_r (40, 0, 0)), some (xm_r (0, 0, 0)), some (xm_r (20, 0, 0)), some (xm_r (30, 0, 0)), some (xm_i (nI (i + 5))), u5, u6, u7] [] (c, (xm_up (xm_up (xm_up fi (7, p, 0) 2 (xs (i + 2))) (20, 0, 0) 0 (0 : Int32)) (21, 8, 0) p (xs (i + 2))), (xm_up fl (30, 0, 0) 0 ((fi (7, p, 0) 2).toInt64)), r) R) : ∀ u5 u6 u7 : Option xm_V, xm_G E 8 true 145 43 [some (xm_r (40, 0, 0)), some (xm_r (0, 0, 0)), some (xm_r (20, 0, 0)), some (xm_r (30, 0, 0)), some (xm_i (nI i)), u5, u6, u7] [] (c, fi, fl, r) R := by
  have hn := sh_n hs
  intro u5 u6 u7
  refine pg_145_43 rfl ?_
  refine pg_145_45 rfl ?_
  refine pg_145_46 (t := 110) (n := L) (Or.inl hsc) ?_
  refine pg_145_47 ?_
  refine pg_145_48 ?_
  refine pg_145_49 (fun hc => absurd hc (lw_go hi hL)) (fun _ => ?_)
  refine pg_145_52 rfl ?_
  refine pg_145_53 rfl ?_
  refine pg_145_55 (n := L) (Or.inr hsc) (i := i) rfl (by omega) hL ?_
  refine go_top (y := xs i) (((kp_re [702, 2000, 2108] fi) (40, 0, 0) _ rfl).trans (hxs _ (by omega))) ?_
  refine pg_145_56 ?_
  refine pg_145_58 ?_
  refine go_top (y := (0 : Int32)) hop ?_
  refine pg_145_59 (off := 93) (t := 152) (by decide) (by decide) ?_
  refine pg_145_152 rfl ?_
  refine pg_145_153 rfl ?_
  refine pg_145_154 rfl ?_
  refine pg_145_156 ?_
  refine pg_145_157 ?_
  refine go_top (y := nI (i + 1)) (nx_add rfl (rfl : (1 : Int32) = nI 1)) ?_
  refine pg_145_158 (n := L) (Or.inr hsc) (i := (i + 1)) rfl (by omega) hL ?_
  refine go_top (y := xs (i + 1)) (((kp_re [702, 2000, 2108] fi) (40, 0, 0) _ rfl).trans (hxs _ (by omega))) ?_
  refine go_top (y := nI p) ho1 ?_
  refine pg_145_159 rfl ?_
  refine pg_145_160 rfl ?_
  refine pg_145_162 ?_
  refine pg_145_163 ?_
  refine go_top (y := nI (i + 2)) (nx_add rfl (rfl : (2 : Int32) = nI 2)) ?_
  refine pg_145_164 (n := L) (Or.inr hsc) (i := (i + 2)) rfl (by omega) hL ?_
  refine go_top (y := xs (i + 2)) (((kp_re [702, 2000, 2108] fi) (40, 0, 0) _ rfl).trans (hxs _ (by omega))) ?_
  refine pg_145_165 rfl ?_
  refine pg_145_166 (Nat.le_of_ble_eq_true rfl) (ct_127v0 (p := p) (y := (xs (i + 2))) hs (by omega)) ?_
  refine pg_145_169 (lv' := [some (xm_r (40, 0, 0)), some (xm_r (0, 0, 0)), some (xm_r (20, 0, 0)), some (xm_r (30, 0, 0)), some (xm_i (nI i)), some (xm_i (0 : Int32)), u6, u7]) rfl ?_
  refine pg_145_171 rfl ?_
  refine pg_145_172 rfl ?_
  refine pg_145_173 rfl ?_
  refine pg_145_175 ?_
  refine pg_145_176 ?_
  refine go_top (y := nI (i + 1)) (nx_add rfl (rfl : (1 : Int32) = nI 1)) ?_
  refine pg_145_177 (n := L) (Or.inr hsc) (i := (i + 1)) rfl (by omega) hL ?_
  refine go_top (y := xs (i + 1)) (((kp_tr (kp_re [702, 2000, 2108] fi) rfl (kp_tr (kp_re [702] fi) rfl (kp_up (kp_re [702] fi) rfl))) (40, 0, 0) _ rfl).trans (hxs _ (by omega))) ?_
  refine go_top (y := nI p) ho1 ?_
  refine pg_145_178 rfl ?_
  refine pg_145_179 rfl ?_
  refine pg_145_181 ?_
  refine pg_145_182 ?_
  refine go_top (y := nI (i + 2)) (nx_add rfl (rfl : (2 : Int32) = nI 2)) ?_
  refine pg_145_183 (n := L) (Or.inr hsc) (i := (i + 2)) rfl (by omega) hL ?_
  refine go_top (y := xs (i + 2)) (((kp_tr (kp_re [702, 2000, 2108] fi) rfl (kp_tr (kp_re [702] fi) rfl (kp_up (kp_re [702] fi) rfl))) (40, 0, 0) _ rfl).trans (hxs _ (by omega))) ?_
  refine pg_145_184 (sk20 hs) (Nat.le_of_ble_eq_true rfl) (ct_98v0 (p := p) (y := (xs (i + 2))) hs (by omega) (fz_kp hf (kp_tr (kp_re [702, 2000, 2108] fi) rfl (kp_tr (kp_re [702] fi) rfl (kp_up (kp_re [702] fi) rfl))) rfl rfl rfl)) ?_
  refine pg_145_187 (lv' := [some (xm_r (40, 0, 0)), some (xm_r (0, 0, 0)), some (xm_r (20, 0, 0)), some (xm_r (30, 0, 0)), some (xm_i (nI i)), some (xm_i (0 : Int32)), some (xm_i ((xm_up fi (7, p, 0) 2 (xs (i + 2))) (21, 8, 0) p)), u7]) rfl ?_
  refine pg_145_189 rfl ?_
  refine pg_145_190 (sk20 hs) (Nat.le_of_ble_eq_true rfl) (ct_69  hs) ?_
  refine go_top (y := (0 : Int32)) (by unfold sp_69; simp [xm_up]) ?_
  refine pg_145_193 rfl ?_
  refine pg_145_195 (fun _ => ?_) (fun hc => absurd (by decide) hc)
  refine pg_145_200 rfl ?_
  refine pg_145_202 (fun hc => absurd (by decide) hc) (fun _ => ?_)
  refine pg_145_205 rfl ?_
  refine pg_145_206 ?_
  refine pg_145_207 (sk30 hs) (i := 0) (rfl : (0 : Int32) = nI 0) (by omega) (by omega) ?_
  refine pg_145_208 rfl ?_
  refine pg_145_210 ?_
  refine pg_145_211 ?_
  refine pg_145_212 (fun _ => ?_) (fun hc => absurd g0 hc)
  refine pg_145_217 ?_
  refine pg_145_1274 (y := (nI (i + 5))) (lv' := [some (xm_r (40, 0, 0)), some (xm_r (0, 0, 0)), some (xm_r (20, 0, 0)), some (xm_r (30, 0, 0)), some (xm_i (nI (i + 5))), some (xm_i (0 : Int32)), some (xm_i ((xm_up fi (7, p, 0) 2 (xs (i + 2))) (21, 8, 0) p)), u7]) rfl (nI_add i 5) rfl ?_
  refine pg_145_1277 ?_
  exact K _ _ _
theorem lw_0_i {n : Nat} {E : xm_E} {c : Nat × Nat} {fi : FI} {fl : FL} {r : xm_I → Nat → Option xm_I} {L i : Nat} {xs : Nat → Int32} {R : xm_O} (hs : sh n E c r) (hf : fz n fi) (hB : BZ fi) (hsc : E.1 (40, 0, 0) = (110, L)) (hL : L < 100000) (hi : i + 5 ≤ L) (hxs : ∀ j, j < L → fi (40, 0, 0) j = xs j) (hop : xs i &&& 31 = 0) (hx : 200 ≤ (E.1 (E.2.2 c.1)).1) (v166_v5_g0 : (bI (sp_8 n (xs (i + 1)))) = 0) (v184_g0 : ¬ (bI (sp_99 n (xs (i + 1)))) = 0) (K : ∀ u5 u6 u7 : Option xm_V, xm_G E 8 true 145 43 [some (xm_r (40, 0, 0)), some (xm_r (0, 0, 0)), some (xm_r (20, 0, 0)), some (xm_r (30, 0, 0)), some (xm_i (nI (i + 5))), u5, u6, u7] [] ((c.1 + 1, c.2 + 6), (xm_up fi (20, 0, 0) 0 (1 : Int32)), fl, r) R) : ∀ u5 u6 u7 : Option xm_V, xm_G E 8 true 145 43 [some (xm_r (40, 0, 0)), some (xm_r (0, 0, 0)), some (xm_r (20, 0, 0)), some (xm_r (30, 0, 0)), some (xm_i (nI i)), u5, u6, u7] [] (c, fi, fl, r) R := by
  have hn := sh_n hs
  intro u5 u6 u7
  refine pg_145_43 rfl ?_
  refine pg_145_45 rfl ?_
  refine pg_145_46 (t := 110) (n := L) (Or.inl hsc) ?_
  refine pg_145_47 ?_
  refine pg_145_48 ?_
  refine pg_145_49 (fun hc => absurd hc (lw_go hi hL)) (fun _ => ?_)
  refine pg_145_52 rfl ?_
  refine pg_145_53 rfl ?_
  refine pg_145_55 (n := L) (Or.inr hsc) (i := i) rfl (by omega) hL ?_
  refine go_top (y := xs i) (((kp_re [2000] fi) (40, 0, 0) _ rfl).trans (hxs _ (by omega))) ?_
  refine pg_145_56 ?_
  refine pg_145_58 ?_
  refine go_top (y := (0 : Int32)) hop ?_
  refine pg_145_59 (off := 93) (t := 152) (by decide) (by decide) ?_
  refine pg_145_152 rfl ?_
  refine pg_145_153 rfl ?_
  refine pg_145_154 rfl ?_
  refine pg_145_156 ?_
  refine pg_145_157 ?_
  refine go_top (y := nI (i + 1)) (nx_add rfl (rfl : (1 : Int32) = nI 1)) ?_
  refine pg_145_158 (n := L) (Or.inr hsc) (i := (i + 1)) rfl (by omega) hL ?_
  refine go_top (y := xs (i + 1)) (((kp_re [2000] fi) (40, 0, 0) _ rfl).trans (hxs _ (by omega))) ?_
  refine pg_145_159 rfl ?_
  refine pg_145_160 rfl ?_
  refine pg_145_162 ?_
  refine pg_145_163 ?_
  refine go_top (y := nI (i + 2)) (nx_add rfl (rfl : (2 : Int32) = nI 2)) ?_
  refine pg_145_164 (n := L) (Or.inr hsc) (i := (i + 2)) rfl (by omega) hL ?_
  refine go_top (y := xs (i + 2)) (((kp_re [2000] fi) (40, 0, 0) _ rfl).trans (hxs _ (by omega))) ?_
  refine pg_145_165 rfl ?_
  refine pg_145_166 (Nat.le_of_ble_eq_true rfl) (ct_127i0 (x := (xs (i + 1))) (y := (xs (i + 2))) hs hx v166_v5_g0) ?_
  have hs := sh_up hs
  refine pg_145_169 (lv' := [some (xm_r (40, 0, 0)), some (xm_r (0, 0, 0)), some (xm_r (20, 0, 0)), some (xm_r (30, 0, 0)), some (xm_i (nI i)), some (xm_i (1 : Int32)), u6, u7]) rfl ?_
  refine pg_145_171 rfl ?_
  refine pg_145_172 rfl ?_
  refine pg_145_173 rfl ?_
  refine pg_145_175 ?_
  refine pg_145_176 ?_
  refine go_top (y := nI (i + 1)) (nx_add rfl (rfl : (1 : Int32) = nI 1)) ?_
  refine pg_145_177 (n := L) (Or.inr hsc) (i := (i + 1)) rfl (by omega) hL ?_
  refine go_top (y := xs (i + 1)) (((kp_re [2000] fi) (40, 0, 0) _ rfl).trans (hxs _ (by omega))) ?_
  refine pg_145_178 rfl ?_
  refine pg_145_179 rfl ?_
  refine pg_145_181 ?_
  refine pg_145_182 ?_
  refine go_top (y := nI (i + 2)) (nx_add rfl (rfl : (2 : Int32) = nI 2)) ?_
  refine pg_145_183 (n := L) (Or.inr hsc) (i := (i + 2)) rfl (by omega) hL ?_
  refine go_top (y := xs (i + 2)) (((kp_re [2000] fi) (40, 0, 0) _ rfl).trans (hxs _ (by omega))) ?_
  refine pg_145_184 (sk20 hs) (Nat.le_of_ble_eq_true rfl) (ct_98i0 (x := (xs (i + 1))) (y := (xs (i + 2))) hs (fz_kp hf (kp_re [2000] fi) rfl rfl rfl) v184_g0) ?_
  refine pg_145_187 (lv' := [some (xm_r (40, 0, 0)), some (xm_r (0, 0, 0)), some (xm_r (20, 0, 0)), some (xm_r (30, 0, 0)), some (xm_i (nI i)), some (xm_i (1 : Int32)), some (xm_i (0 : Int32)), u7]) rfl ?_
  refine pg_145_189 rfl ?_
  refine pg_145_190 (sk20 hs) (Nat.le_of_ble_eq_true rfl) (ct_69  hs) ?_
  refine go_top (y := (1 : Int32)) (by unfold sp_69; simp [xm_up]) ?_
  refine pg_145_193 rfl ?_
  refine pg_145_195 (fun _ => ?_) (fun hc => absurd (by decide) hc)
  refine pg_145_200 rfl ?_
  refine pg_145_202 (fun _ => ?_) (fun hc => absurd hc (by decide))
  refine pg_145_217 ?_
  refine pg_145_1274 (y := (nI (i + 5))) (lv' := [some (xm_r (40, 0, 0)), some (xm_r (0, 0, 0)), some (xm_r (20, 0, 0)), some (xm_r (30, 0, 0)), some (xm_i (nI (i + 5))), some (xm_i (1 : Int32)), some (xm_i (0 : Int32)), u7]) rfl (nI_add i 5) rfl ?_
  refine pg_145_1277 ?_
  exact K _ _ _
theorem lw_1_l {n : Nat} {E : xm_E} {c : Nat × Nat} {fi : FI} {fl : FL} {r : xm_I → Nat → Option xm_I} {L i : Nat} {xs : Nat → Int32} {R : xm_O} (hs : sh n E c r) (hf : fz n fi) (hB : BZ fi) (hsc : E.1 (40, 0, 0) = (110, L)) (hL : L < 100000) (hi : i + 5 ≤ L) (hxs : ∀ j, j < L → fi (40, 0, 0) j = xs j) (hop : xs i &&& 31 = 1) (K : ∀ u5 u6 u7 : Option xm_V, xm_G E 8 true 145 43 [some (xm_r (40, 0, 0)), some (xm_r (0, 0, 0)), some (xm_r (20, 0, 0)), some (xm_r (30, 0, 0)), some (xm_i (nI (i + 5))), u5, u6, u7] [] (c, (xm_up (xm_up (xm_up fi (1, 0, 0) 1 (xs (i + 1))) (20, 0, 0) 0 (0 : Int32)) (20, 0, 0) 4 (xs (i + 1))), fl, r) R) : ∀ u5 u6 u7 : Option xm_V, xm_G E 8 true 145 43 [some (xm_r (40, 0, 0)), some (xm_r (0, 0, 0)), some (xm_r (20, 0, 0)), some (xm_r (30, 0, 0)), some (xm_i (nI i)), u5, u6, u7] [] (c, fi, fl, r) R := by
  have hn := sh_n hs
  intro u5 u6 u7
  refine pg_145_43 rfl ?_
  refine pg_145_45 rfl ?_
  refine pg_145_46 (t := 110) (n := L) (Or.inl hsc) ?_
  refine pg_145_47 ?_
  refine pg_145_48 ?_
  refine pg_145_49 (fun hc => absurd hc (lw_go hi hL)) (fun _ => ?_)
  refine pg_145_52 rfl ?_
  refine pg_145_53 rfl ?_
  refine pg_145_55 (n := L) (Or.inr hsc) (i := i) rfl (by omega) hL ?_
  refine go_top (y := xs i) (((kp_re [101, 2000, 2004] fi) (40, 0, 0) _ rfl).trans (hxs _ (by omega))) ?_
  refine pg_145_56 ?_
  refine pg_145_58 ?_
  refine go_top (y := (1 : Int32)) hop ?_
  refine pg_145_59 (off := 161) (t := 220) (by decide) (by decide) ?_
  refine pg_145_220 rfl ?_
  refine pg_145_221 rfl ?_
  refine pg_145_222 rfl ?_
  refine pg_145_224 ?_
  refine pg_145_225 ?_
  refine go_top (y := nI (i + 1)) (nx_add rfl (rfl : (1 : Int32) = nI 1)) ?_
  refine pg_145_226 (n := L) (Or.inr hsc) (i := (i + 1)) rfl (by omega) hL ?_
  refine go_top (y := xs (i + 1)) (((kp_re [101, 2000, 2004] fi) (40, 0, 0) _ rfl).trans (hxs _ (by omega))) ?_
  refine pg_145_227 (sk0 hs) (Nat.le_of_ble_eq_true rfl) (ct_2l0 (x := (xs (i + 1))) hs) ?_
  refine pg_145_230 rfl ?_
  refine pg_145_231 rfl ?_
  refine pg_145_232 rfl ?_
  refine pg_145_234 ?_
  refine pg_145_235 ?_
  refine go_top (y := nI (i + 1)) (nx_add rfl (rfl : (1 : Int32) = nI 1)) ?_
  refine pg_145_236 (n := L) (Or.inr hsc) (i := (i + 1)) rfl (by omega) hL ?_
  refine go_top (y := xs (i + 1)) (((kp_tr (kp_re [101, 2000, 2004] fi) rfl (kp_up (kp_re [101] fi) rfl)) (40, 0, 0) _ rfl).trans (hxs _ (by omega))) ?_
  refine pg_145_237 (sk20 hs) (Nat.le_of_ble_eq_true rfl) (ct_100l0 (x := (xs (i + 1))) hs) ?_
  refine pg_145_240 ?_
  refine pg_145_1274 (y := (nI (i + 5))) (lv' := [some (xm_r (40, 0, 0)), some (xm_r (0, 0, 0)), some (xm_r (20, 0, 0)), some (xm_r (30, 0, 0)), some (xm_i (nI (i + 5))), u5, u6, u7]) rfl (nI_add i 5) rfl ?_
  refine pg_145_1277 ?_
  exact K _ _ _
theorem lw_2_ok {n : Nat} {E : xm_E} {c : Nat × Nat} {fi : FI} {fl : FL} {r : xm_I → Nat → Option xm_I} {L i : Nat} {xs : Nat → Int32} {R : xm_O} (hs : sh n E c r) (hf : fz n fi) (hB : BZ fi) (hsc : E.1 (40, 0, 0) = (110, L)) (hL : L < 100000) (hi : i + 5 ≤ L) (hxs : ∀ j, j < L → fi (40, 0, 0) j = xs j) (hop : xs i &&& 31 = 2) (v262_v4_g0 : ¬ (bI (sp_10 (xs (i + 1)))) = 0) (v262_v4_g1 : ¬ (bI (sp_10 (xs (i + 2)))) = 0) (v262_v4_g2 : ¬ (bI (sp_10 (xs (i + 3)))) = 0) (v286_g0 : ¬ (xs (i + 1)) < 0) (v286_g1 : ¬ (1048576 : Int32) < (xs (i + 1))) (v286_g2 : ¬ (xs (i + 2)) < 0) (v286_g3 : ¬ (1048576 : Int32) < (xs (i + 2))) (v286_g4 : ¬ (xs (i + 3)) < 0) (v286_g5 : (xs (i + 3)) ≤ (1048576 : Int32)) (K : ∀ u5 u6 u7 : Option xm_V, xm_G E 8 true 145 43 [some (xm_r (40, 0, 0)), some (xm_r (0, 0, 0)), some (xm_r (20, 0, 0)), some (xm_r (30, 0, 0)), some (xm_i (nI (i + 5))), u5, u6, u7] [] (c, (xm_up (xm_up (xm_up (xm_up fi (20, 0, 0) 0 (0 : Int32)) (20, 0, 0) 5 (xs (i + 1))) (20, 0, 0) 6 (xs (i + 2))) (20, 0, 0) 7 (xs (i + 3))), (xm_up (xm_up (xm_up fl (1, 0, 0) 2 ((xs (i + 1)).toInt64)) (1, 0, 0) 3 ((xs (i + 2)).toInt64)) (1, 0, 0) 4 ((xs (i + 3)).toInt64)), r) R) : ∀ u5 u6 u7 : Option xm_V, xm_G E 8 true 145 43 [some (xm_r (40, 0, 0)), some (xm_r (0, 0, 0)), some (xm_r (20, 0, 0)), some (xm_r (30, 0, 0)), some (xm_i (nI i)), u5, u6, u7] [] (c, fi, fl, r) R := by
  have hn := sh_n hs
  intro u5 u6 u7
  refine pg_145_43 rfl ?_
  refine pg_145_45 rfl ?_
  refine pg_145_46 (t := 110) (n := L) (Or.inl hsc) ?_
  refine pg_145_47 ?_
  refine pg_145_48 ?_
  refine pg_145_49 (fun hc => absurd hc (lw_go hi hL)) (fun _ => ?_)
  refine pg_145_52 rfl ?_
  refine pg_145_53 rfl ?_
  refine pg_145_55 (n := L) (Or.inr hsc) (i := i) rfl (by omega) hL ?_
  refine go_top (y := xs i) (((kp_re [2000, 2005, 2006, 2007] fi) (40, 0, 0) _ rfl).trans (hxs _ (by omega))) ?_
  refine pg_145_56 ?_
  refine pg_145_58 ?_
  refine go_top (y := (2 : Int32)) hop ?_
  refine pg_145_59 (off := 184) (t := 243) (by decide) (by decide) ?_
  refine pg_145_243 rfl ?_
  refine pg_145_244 rfl ?_
  refine pg_145_245 rfl ?_
  refine pg_145_247 ?_
  refine pg_145_248 ?_
  refine go_top (y := nI (i + 1)) (nx_add rfl (rfl : (1 : Int32) = nI 1)) ?_
  refine pg_145_249 (n := L) (Or.inr hsc) (i := (i + 1)) rfl (by omega) hL ?_
  refine go_top (y := xs (i + 1)) (((kp_re [2000, 2005, 2006, 2007] fi) (40, 0, 0) _ rfl).trans (hxs _ (by omega))) ?_
  refine pg_145_250 rfl ?_
  refine pg_145_251 rfl ?_
  refine pg_145_253 ?_
  refine pg_145_254 ?_
  refine go_top (y := nI (i + 2)) (nx_add rfl (rfl : (2 : Int32) = nI 2)) ?_
  refine pg_145_255 (n := L) (Or.inr hsc) (i := (i + 2)) rfl (by omega) hL ?_
  refine go_top (y := xs (i + 2)) (((kp_re [2000, 2005, 2006, 2007] fi) (40, 0, 0) _ rfl).trans (hxs _ (by omega))) ?_
  refine pg_145_256 rfl ?_
  refine pg_145_257 rfl ?_
  refine pg_145_259 ?_
  refine pg_145_260 ?_
  refine go_top (y := nI (i + 3)) (nx_add rfl (rfl : (3 : Int32) = nI 3)) ?_
  refine pg_145_261 (n := L) (Or.inr hsc) (i := (i + 3)) rfl (by omega) hL ?_
  refine go_top (y := xs (i + 3)) (((kp_re [2000, 2005, 2006, 2007] fi) (40, 0, 0) _ rfl).trans (hxs _ (by omega))) ?_
  refine pg_145_262 (Nat.le_of_ble_eq_true rfl) (ct_128l3 (x := (xs (i + 1))) (y := (xs (i + 2))) (z := (xs (i + 3))) hs v262_v4_g0 v262_v4_g1 v262_v4_g2) ?_
  refine pg_145_265 (lv' := [some (xm_r (40, 0, 0)), some (xm_r (0, 0, 0)), some (xm_r (20, 0, 0)), some (xm_r (30, 0, 0)), some (xm_i (nI i)), some (xm_i (0 : Int32)), u6, u7]) rfl ?_
  refine pg_145_267 rfl ?_
  refine pg_145_268 rfl ?_
  refine pg_145_269 rfl ?_
  refine pg_145_271 ?_
  refine pg_145_272 ?_
  refine go_top (y := nI (i + 1)) (nx_add rfl (rfl : (1 : Int32) = nI 1)) ?_
  refine pg_145_273 (n := L) (Or.inr hsc) (i := (i + 1)) rfl (by omega) hL ?_
  refine go_top (y := xs (i + 1)) (((kp_re [2000, 2005, 2006, 2007] fi) (40, 0, 0) _ rfl).trans (hxs _ (by omega))) ?_
  refine pg_145_274 rfl ?_
  refine pg_145_275 rfl ?_
  refine pg_145_277 ?_
  refine pg_145_278 ?_
  refine go_top (y := nI (i + 2)) (nx_add rfl (rfl : (2 : Int32) = nI 2)) ?_
  refine pg_145_279 (n := L) (Or.inr hsc) (i := (i + 2)) rfl (by omega) hL ?_
  refine go_top (y := xs (i + 2)) (((kp_re [2000, 2005, 2006, 2007] fi) (40, 0, 0) _ rfl).trans (hxs _ (by omega))) ?_
  refine pg_145_280 rfl ?_
  refine pg_145_281 rfl ?_
  refine pg_145_283 ?_
  refine pg_145_284 ?_
  refine go_top (y := nI (i + 3)) (nx_add rfl (rfl : (3 : Int32) = nI 3)) ?_
  refine pg_145_285 (n := L) (Or.inr hsc) (i := (i + 3)) rfl (by omega) hL ?_
  refine go_top (y := xs (i + 3)) (((kp_re [2000, 2005, 2006, 2007] fi) (40, 0, 0) _ rfl).trans (hxs _ (by omega))) ?_
  refine pg_145_286 (sk20 hs) (Nat.le_of_ble_eq_true rfl) (ct_101l5 (x := (xs (i + 1))) (y := (xs (i + 2))) (z := (xs (i + 3))) hs v286_g0 v286_g1 v286_g2 v286_g3 v286_g4 v286_g5) ?_
  refine pg_145_289 rfl ?_
  refine pg_145_290 (sk20 hs) (Nat.le_of_ble_eq_true rfl) (ct_69  hs) ?_
  refine go_top (y := (0 : Int32)) (by unfold sp_69; simp [xm_up]) ?_
  refine pg_145_293 rfl ?_
  refine pg_145_295 (fun _ => ?_) (fun hc => absurd (by decide) hc)
  refine pg_145_300 ?_
  refine pg_145_1274 (y := (nI (i + 5))) (lv' := [some (xm_r (40, 0, 0)), some (xm_r (0, 0, 0)), some (xm_r (20, 0, 0)), some (xm_r (30, 0, 0)), some (xm_i (nI (i + 5))), some (xm_i (0 : Int32)), u6, u7]) rfl (nI_add i 5) rfl ?_
  refine pg_145_1277 ?_
  exact K _ _ _
theorem lw_2_b0 {n : Nat} {E : xm_E} {c : Nat × Nat} {fi : FI} {fl : FL} {r : xm_I → Nat → Option xm_I} {L i : Nat} {xs : Nat → Int32} {R : xm_O} (hs : sh n E c r) (hf : fz n fi) (hB : BZ fi) (hsc : E.1 (40, 0, 0) = (110, L)) (hL : L < 100000) (hi : i + 5 ≤ L) (hxs : ∀ j, j < L → fi (40, 0, 0) j = xs j) (hop : xs i &&& 31 = 2) (hx : 200 ≤ (E.1 (E.2.2 c.1)).1) (v262_v4_g0 : (bI (sp_10 (xs (i + 1)))) = 0) (v286_g0 : (xs (i + 1)) < 0) (K : ∀ u5 u6 u7 : Option xm_V, xm_G E 8 true 145 43 [some (xm_r (40, 0, 0)), some (xm_r (0, 0, 0)), some (xm_r (20, 0, 0)), some (xm_r (30, 0, 0)), some (xm_i (nI (i + 5))), u5, u6, u7] [] ((c.1 + 1, c.2 + 6), (xm_up fi (20, 0, 0) 0 (1 : Int32)), fl, r) R) : ∀ u5 u6 u7 : Option xm_V, xm_G E 8 true 145 43 [some (xm_r (40, 0, 0)), some (xm_r (0, 0, 0)), some (xm_r (20, 0, 0)), some (xm_r (30, 0, 0)), some (xm_i (nI i)), u5, u6, u7] [] (c, fi, fl, r) R := by
  have hn := sh_n hs
  intro u5 u6 u7
  refine pg_145_43 rfl ?_
  refine pg_145_45 rfl ?_
  refine pg_145_46 (t := 110) (n := L) (Or.inl hsc) ?_
  refine pg_145_47 ?_
  refine pg_145_48 ?_
  refine pg_145_49 (fun hc => absurd hc (lw_go hi hL)) (fun _ => ?_)
  refine pg_145_52 rfl ?_
  refine pg_145_53 rfl ?_
  refine pg_145_55 (n := L) (Or.inr hsc) (i := i) rfl (by omega) hL ?_
  refine go_top (y := xs i) (((kp_re [2000] fi) (40, 0, 0) _ rfl).trans (hxs _ (by omega))) ?_
  refine pg_145_56 ?_
  refine pg_145_58 ?_
  refine go_top (y := (2 : Int32)) hop ?_
  refine pg_145_59 (off := 184) (t := 243) (by decide) (by decide) ?_
  refine pg_145_243 rfl ?_
  refine pg_145_244 rfl ?_
  refine pg_145_245 rfl ?_
  refine pg_145_247 ?_
  refine pg_145_248 ?_
  refine go_top (y := nI (i + 1)) (nx_add rfl (rfl : (1 : Int32) = nI 1)) ?_
  refine pg_145_249 (n := L) (Or.inr hsc) (i := (i + 1)) rfl (by omega) hL ?_
  refine go_top (y := xs (i + 1)) (((kp_re [2000] fi) (40, 0, 0) _ rfl).trans (hxs _ (by omega))) ?_
  refine pg_145_250 rfl ?_
  refine pg_145_251 rfl ?_
  refine pg_145_253 ?_
  refine pg_145_254 ?_
  refine go_top (y := nI (i + 2)) (nx_add rfl (rfl : (2 : Int32) = nI 2)) ?_
  refine pg_145_255 (n := L) (Or.inr hsc) (i := (i + 2)) rfl (by omega) hL ?_
  refine go_top (y := xs (i + 2)) (((kp_re [2000] fi) (40, 0, 0) _ rfl).trans (hxs _ (by omega))) ?_
  refine pg_145_256 rfl ?_
  refine pg_145_257 rfl ?_
  refine pg_145_259 ?_
  refine pg_145_260 ?_
  refine go_top (y := nI (i + 3)) (nx_add rfl (rfl : (3 : Int32) = nI 3)) ?_
  refine pg_145_261 (n := L) (Or.inr hsc) (i := (i + 3)) rfl (by omega) hL ?_
  refine go_top (y := xs (i + 3)) (((kp_re [2000] fi) (40, 0, 0) _ rfl).trans (hxs _ (by omega))) ?_
  refine pg_145_262 (Nat.le_of_ble_eq_true rfl) (ct_128l0 (x := (xs (i + 1))) (y := (xs (i + 2))) (z := (xs (i + 3))) hs hx v262_v4_g0) ?_
  have hs := sh_up hs
  refine pg_145_265 (lv' := [some (xm_r (40, 0, 0)), some (xm_r (0, 0, 0)), some (xm_r (20, 0, 0)), some (xm_r (30, 0, 0)), some (xm_i (nI i)), some (xm_i (1 : Int32)), u6, u7]) rfl ?_
  refine pg_145_267 rfl ?_
  refine pg_145_268 rfl ?_
  refine pg_145_269 rfl ?_
  refine pg_145_271 ?_
  refine pg_145_272 ?_
  refine go_top (y := nI (i + 1)) (nx_add rfl (rfl : (1 : Int32) = nI 1)) ?_
  refine pg_145_273 (n := L) (Or.inr hsc) (i := (i + 1)) rfl (by omega) hL ?_
  refine go_top (y := xs (i + 1)) (((kp_re [2000] fi) (40, 0, 0) _ rfl).trans (hxs _ (by omega))) ?_
  refine pg_145_274 rfl ?_
  refine pg_145_275 rfl ?_
  refine pg_145_277 ?_
  refine pg_145_278 ?_
  refine go_top (y := nI (i + 2)) (nx_add rfl (rfl : (2 : Int32) = nI 2)) ?_
  refine pg_145_279 (n := L) (Or.inr hsc) (i := (i + 2)) rfl (by omega) hL ?_
  refine go_top (y := xs (i + 2)) (((kp_re [2000] fi) (40, 0, 0) _ rfl).trans (hxs _ (by omega))) ?_
  refine pg_145_280 rfl ?_
  refine pg_145_281 rfl ?_
  refine pg_145_283 ?_
  refine pg_145_284 ?_
  refine go_top (y := nI (i + 3)) (nx_add rfl (rfl : (3 : Int32) = nI 3)) ?_
  refine pg_145_285 (n := L) (Or.inr hsc) (i := (i + 3)) rfl (by omega) hL ?_
  refine go_top (y := xs (i + 3)) (((kp_re [2000] fi) (40, 0, 0) _ rfl).trans (hxs _ (by omega))) ?_
  refine pg_145_286 (sk20 hs) (Nat.le_of_ble_eq_true rfl) (ct_101l0 (x := (xs (i + 1))) (y := (xs (i + 2))) (z := (xs (i + 3))) hs v286_g0) ?_
  refine pg_145_289 rfl ?_
  refine pg_145_290 (sk20 hs) (Nat.le_of_ble_eq_true rfl) (ct_69  hs) ?_
  refine go_top (y := (1 : Int32)) (by unfold sp_69; simp [xm_up]) ?_
  refine pg_145_293 rfl ?_
  refine pg_145_295 (fun _ => ?_) (fun hc => absurd (by decide) hc)
  refine pg_145_300 ?_
  refine pg_145_1274 (y := (nI (i + 5))) (lv' := [some (xm_r (40, 0, 0)), some (xm_r (0, 0, 0)), some (xm_r (20, 0, 0)), some (xm_r (30, 0, 0)), some (xm_i (nI (i + 5))), some (xm_i (1 : Int32)), u6, u7]) rfl (nI_add i 5) rfl ?_
  refine pg_145_1277 ?_
  exact K _ _ _
theorem lw_2_b1 {n : Nat} {E : xm_E} {c : Nat × Nat} {fi : FI} {fl : FL} {r : xm_I → Nat → Option xm_I} {L i : Nat} {xs : Nat → Int32} {R : xm_O} (hs : sh n E c r) (hf : fz n fi) (hB : BZ fi) (hsc : E.1 (40, 0, 0) = (110, L)) (hL : L < 100000) (hi : i + 5 ≤ L) (hxs : ∀ j, j < L → fi (40, 0, 0) j = xs j) (hop : xs i &&& 31 = 2) (hx : 200 ≤ (E.1 (E.2.2 c.1)).1) (v262_v4_g0 : (bI (sp_10 (xs (i + 1)))) = 0) (v286_g0 : ¬ (xs (i + 1)) < 0) (v286_g1 : (1048576 : Int32) < (xs (i + 1))) (K : ∀ u5 u6 u7 : Option xm_V, xm_G E 8 true 145 43 [some (xm_r (40, 0, 0)), some (xm_r (0, 0, 0)), some (xm_r (20, 0, 0)), some (xm_r (30, 0, 0)), some (xm_i (nI (i + 5))), u5, u6, u7] [] ((c.1 + 1, c.2 + 6), (xm_up fi (20, 0, 0) 0 (1 : Int32)), fl, r) R) : ∀ u5 u6 u7 : Option xm_V, xm_G E 8 true 145 43 [some (xm_r (40, 0, 0)), some (xm_r (0, 0, 0)), some (xm_r (20, 0, 0)), some (xm_r (30, 0, 0)), some (xm_i (nI i)), u5, u6, u7] [] (c, fi, fl, r) R := by
  have hn := sh_n hs
  intro u5 u6 u7
  refine pg_145_43 rfl ?_
  refine pg_145_45 rfl ?_
  refine pg_145_46 (t := 110) (n := L) (Or.inl hsc) ?_
  refine pg_145_47 ?_
  refine pg_145_48 ?_
  refine pg_145_49 (fun hc => absurd hc (lw_go hi hL)) (fun _ => ?_)
  refine pg_145_52 rfl ?_
  refine pg_145_53 rfl ?_
  refine pg_145_55 (n := L) (Or.inr hsc) (i := i) rfl (by omega) hL ?_
  refine go_top (y := xs i) (((kp_re [2000] fi) (40, 0, 0) _ rfl).trans (hxs _ (by omega))) ?_
  refine pg_145_56 ?_
  refine pg_145_58 ?_
  refine go_top (y := (2 : Int32)) hop ?_
  refine pg_145_59 (off := 184) (t := 243) (by decide) (by decide) ?_
  refine pg_145_243 rfl ?_
  refine pg_145_244 rfl ?_
  refine pg_145_245 rfl ?_
  refine pg_145_247 ?_
  refine pg_145_248 ?_
  refine go_top (y := nI (i + 1)) (nx_add rfl (rfl : (1 : Int32) = nI 1)) ?_
  refine pg_145_249 (n := L) (Or.inr hsc) (i := (i + 1)) rfl (by omega) hL ?_
  refine go_top (y := xs (i + 1)) (((kp_re [2000] fi) (40, 0, 0) _ rfl).trans (hxs _ (by omega))) ?_
  refine pg_145_250 rfl ?_
  refine pg_145_251 rfl ?_
  refine pg_145_253 ?_
  refine pg_145_254 ?_
  refine go_top (y := nI (i + 2)) (nx_add rfl (rfl : (2 : Int32) = nI 2)) ?_
  refine pg_145_255 (n := L) (Or.inr hsc) (i := (i + 2)) rfl (by omega) hL ?_
  refine go_top (y := xs (i + 2)) (((kp_re [2000] fi) (40, 0, 0) _ rfl).trans (hxs _ (by omega))) ?_
  refine pg_145_256 rfl ?_
  refine pg_145_257 rfl ?_
  refine pg_145_259 ?_
  refine pg_145_260 ?_
  refine go_top (y := nI (i + 3)) (nx_add rfl (rfl : (3 : Int32) = nI 3)) ?_
  refine pg_145_261 (n := L) (Or.inr hsc) (i := (i + 3)) rfl (by omega) hL ?_
  refine go_top (y := xs (i + 3)) (((kp_re [2000] fi) (40, 0, 0) _ rfl).trans (hxs _ (by omega))) ?_
  refine pg_145_262 (Nat.le_of_ble_eq_true rfl) (ct_128l0 (x := (xs (i + 1))) (y := (xs (i + 2))) (z := (xs (i + 3))) hs hx v262_v4_g0) ?_
  have hs := sh_up hs
  refine pg_145_265 (lv' := [some (xm_r (40, 0, 0)), some (xm_r (0, 0, 0)), some (xm_r (20, 0, 0)), some (xm_r (30, 0, 0)), some (xm_i (nI i)), some (xm_i (1 : Int32)), u6, u7]) rfl ?_
  refine pg_145_267 rfl ?_
  refine pg_145_268 rfl ?_
  refine pg_145_269 rfl ?_
  refine pg_145_271 ?_
  refine pg_145_272 ?_
  refine go_top (y := nI (i + 1)) (nx_add rfl (rfl : (1 : Int32) = nI 1)) ?_
  refine pg_145_273 (n := L) (Or.inr hsc) (i := (i + 1)) rfl (by omega) hL ?_
  refine go_top (y := xs (i + 1)) (((kp_re [2000] fi) (40, 0, 0) _ rfl).trans (hxs _ (by omega))) ?_
  refine pg_145_274 rfl ?_
  refine pg_145_275 rfl ?_
  refine pg_145_277 ?_
  refine pg_145_278 ?_
  refine go_top (y := nI (i + 2)) (nx_add rfl (rfl : (2 : Int32) = nI 2)) ?_
  refine pg_145_279 (n := L) (Or.inr hsc) (i := (i + 2)) rfl (by omega) hL ?_
  refine go_top (y := xs (i + 2)) (((kp_re [2000] fi) (40, 0, 0) _ rfl).trans (hxs _ (by omega))) ?_
  refine pg_145_280 rfl ?_
  refine pg_145_281 rfl ?_
  refine pg_145_283 ?_
  refine pg_145_284 ?_
  refine go_top (y := nI (i + 3)) (nx_add rfl (rfl : (3 : Int32) = nI 3)) ?_
  refine pg_145_285 (n := L) (Or.inr hsc) (i := (i + 3)) rfl (by omega) hL ?_
  refine go_top (y := xs (i + 3)) (((kp_re [2000] fi) (40, 0, 0) _ rfl).trans (hxs _ (by omega))) ?_
  refine pg_145_286 (sk20 hs) (Nat.le_of_ble_eq_true rfl) (ct_101l1 (x := (xs (i + 1))) (y := (xs (i + 2))) (z := (xs (i + 3))) hs v286_g0 v286_g1) ?_
  refine pg_145_289 rfl ?_
  refine pg_145_290 (sk20 hs) (Nat.le_of_ble_eq_true rfl) (ct_69  hs) ?_
  refine go_top (y := (1 : Int32)) (by unfold sp_69; simp [xm_up]) ?_
  refine pg_145_293 rfl ?_
  refine pg_145_295 (fun _ => ?_) (fun hc => absurd (by decide) hc)
  refine pg_145_300 ?_
  refine pg_145_1274 (y := (nI (i + 5))) (lv' := [some (xm_r (40, 0, 0)), some (xm_r (0, 0, 0)), some (xm_r (20, 0, 0)), some (xm_r (30, 0, 0)), some (xm_i (nI (i + 5))), some (xm_i (1 : Int32)), u6, u7]) rfl (nI_add i 5) rfl ?_
  refine pg_145_1277 ?_
  exact K _ _ _
theorem lw_2_b2 {n : Nat} {E : xm_E} {c : Nat × Nat} {fi : FI} {fl : FL} {r : xm_I → Nat → Option xm_I} {L i : Nat} {xs : Nat → Int32} {R : xm_O} (hs : sh n E c r) (hf : fz n fi) (hB : BZ fi) (hsc : E.1 (40, 0, 0) = (110, L)) (hL : L < 100000) (hi : i + 5 ≤ L) (hxs : ∀ j, j < L → fi (40, 0, 0) j = xs j) (hop : xs i &&& 31 = 2) (hx : 200 ≤ (E.1 (E.2.2 c.1)).1) (v262_v4_g0 : ¬ (bI (sp_10 (xs (i + 1)))) = 0) (v262_v4_g1 : (bI (sp_10 (xs (i + 2)))) = 0) (v286_g0 : ¬ (xs (i + 1)) < 0) (v286_g1 : ¬ (1048576 : Int32) < (xs (i + 1))) (v286_g2 : (xs (i + 2)) < 0) (K : ∀ u5 u6 u7 : Option xm_V, xm_G E 8 true 145 43 [some (xm_r (40, 0, 0)), some (xm_r (0, 0, 0)), some (xm_r (20, 0, 0)), some (xm_r (30, 0, 0)), some (xm_i (nI (i + 5))), u5, u6, u7] [] ((c.1 + 1, c.2 + 6), (xm_up fi (20, 0, 0) 0 (1 : Int32)), fl, r) R) : ∀ u5 u6 u7 : Option xm_V, xm_G E 8 true 145 43 [some (xm_r (40, 0, 0)), some (xm_r (0, 0, 0)), some (xm_r (20, 0, 0)), some (xm_r (30, 0, 0)), some (xm_i (nI i)), u5, u6, u7] [] (c, fi, fl, r) R := by
  have hn := sh_n hs
  intro u5 u6 u7
  refine pg_145_43 rfl ?_
  refine pg_145_45 rfl ?_
  refine pg_145_46 (t := 110) (n := L) (Or.inl hsc) ?_
  refine pg_145_47 ?_
  refine pg_145_48 ?_
  refine pg_145_49 (fun hc => absurd hc (lw_go hi hL)) (fun _ => ?_)
  refine pg_145_52 rfl ?_
  refine pg_145_53 rfl ?_
  refine pg_145_55 (n := L) (Or.inr hsc) (i := i) rfl (by omega) hL ?_
  refine go_top (y := xs i) (((kp_re [2000] fi) (40, 0, 0) _ rfl).trans (hxs _ (by omega))) ?_
  refine pg_145_56 ?_
  refine pg_145_58 ?_
  refine go_top (y := (2 : Int32)) hop ?_
  refine pg_145_59 (off := 184) (t := 243) (by decide) (by decide) ?_
  refine pg_145_243 rfl ?_
  refine pg_145_244 rfl ?_
  refine pg_145_245 rfl ?_
  refine pg_145_247 ?_
  refine pg_145_248 ?_
  refine go_top (y := nI (i + 1)) (nx_add rfl (rfl : (1 : Int32) = nI 1)) ?_
  refine pg_145_249 (n := L) (Or.inr hsc) (i := (i + 1)) rfl (by omega) hL ?_
  refine go_top (y := xs (i + 1)) (((kp_re [2000] fi) (40, 0, 0) _ rfl).trans (hxs _ (by omega))) ?_
  refine pg_145_250 rfl ?_
  refine pg_145_251 rfl ?_
  refine pg_145_253 ?_
  refine pg_145_254 ?_
  refine go_top (y := nI (i + 2)) (nx_add rfl (rfl : (2 : Int32) = nI 2)) ?_
  refine pg_145_255 (n := L) (Or.inr hsc) (i := (i + 2)) rfl (by omega) hL ?_
  refine go_top (y := xs (i + 2)) (((kp_re [2000] fi) (40, 0, 0) _ rfl).trans (hxs _ (by omega))) ?_
  refine pg_145_256 rfl ?_
  refine pg_145_257 rfl ?_
  refine pg_145_259 ?_
  refine pg_145_260 ?_
  refine go_top (y := nI (i + 3)) (nx_add rfl (rfl : (3 : Int32) = nI 3)) ?_
  refine pg_145_261 (n := L) (Or.inr hsc) (i := (i + 3)) rfl (by omega) hL ?_
  refine go_top (y := xs (i + 3)) (((kp_re [2000] fi) (40, 0, 0) _ rfl).trans (hxs _ (by omega))) ?_
  refine pg_145_262 (Nat.le_of_ble_eq_true rfl) (ct_128l1 (x := (xs (i + 1))) (y := (xs (i + 2))) (z := (xs (i + 3))) hs hx v262_v4_g0 v262_v4_g1) ?_
  have hs := sh_up hs
  refine pg_145_265 (lv' := [some (xm_r (40, 0, 0)), some (xm_r (0, 0, 0)), some (xm_r (20, 0, 0)), some (xm_r (30, 0, 0)), some (xm_i (nI i)), some (xm_i (1 : Int32)), u6, u7]) rfl ?_
  refine pg_145_267 rfl ?_
  refine pg_145_268 rfl ?_
  refine pg_145_269 rfl ?_
  refine pg_145_271 ?_
  refine pg_145_272 ?_
  refine go_top (y := nI (i + 1)) (nx_add rfl (rfl : (1 : Int32) = nI 1)) ?_
  refine pg_145_273 (n := L) (Or.inr hsc) (i := (i + 1)) rfl (by omega) hL ?_
  refine go_top (y := xs (i + 1)) (((kp_re [2000] fi) (40, 0, 0) _ rfl).trans (hxs _ (by omega))) ?_
  refine pg_145_274 rfl ?_
  refine pg_145_275 rfl ?_
  refine pg_145_277 ?_
  refine pg_145_278 ?_
  refine go_top (y := nI (i + 2)) (nx_add rfl (rfl : (2 : Int32) = nI 2)) ?_
  refine pg_145_279 (n := L) (Or.inr hsc) (i := (i + 2)) rfl (by omega) hL ?_
  refine go_top (y := xs (i + 2)) (((kp_re [2000] fi) (40, 0, 0) _ rfl).trans (hxs _ (by omega))) ?_
  refine pg_145_280 rfl ?_
  refine pg_145_281 rfl ?_
  refine pg_145_283 ?_
  refine pg_145_284 ?_
  refine go_top (y := nI (i + 3)) (nx_add rfl (rfl : (3 : Int32) = nI 3)) ?_
  refine pg_145_285 (n := L) (Or.inr hsc) (i := (i + 3)) rfl (by omega) hL ?_
  refine go_top (y := xs (i + 3)) (((kp_re [2000] fi) (40, 0, 0) _ rfl).trans (hxs _ (by omega))) ?_
  refine pg_145_286 (sk20 hs) (Nat.le_of_ble_eq_true rfl) (ct_101l2 (x := (xs (i + 1))) (y := (xs (i + 2))) (z := (xs (i + 3))) hs v286_g0 v286_g1 v286_g2) ?_
  refine pg_145_289 rfl ?_
  refine pg_145_290 (sk20 hs) (Nat.le_of_ble_eq_true rfl) (ct_69  hs) ?_
  refine go_top (y := (1 : Int32)) (by unfold sp_69; simp [xm_up]) ?_
  refine pg_145_293 rfl ?_
  refine pg_145_295 (fun _ => ?_) (fun hc => absurd (by decide) hc)
  refine pg_145_300 ?_
  refine pg_145_1274 (y := (nI (i + 5))) (lv' := [some (xm_r (40, 0, 0)), some (xm_r (0, 0, 0)), some (xm_r (20, 0, 0)), some (xm_r (30, 0, 0)), some (xm_i (nI (i + 5))), some (xm_i (1 : Int32)), u6, u7]) rfl (nI_add i 5) rfl ?_
  refine pg_145_1277 ?_
  exact K _ _ _
theorem lw_2_b3 {n : Nat} {E : xm_E} {c : Nat × Nat} {fi : FI} {fl : FL} {r : xm_I → Nat → Option xm_I} {L i : Nat} {xs : Nat → Int32} {R : xm_O} (hs : sh n E c r) (hf : fz n fi) (hB : BZ fi) (hsc : E.1 (40, 0, 0) = (110, L)) (hL : L < 100000) (hi : i + 5 ≤ L) (hxs : ∀ j, j < L → fi (40, 0, 0) j = xs j) (hop : xs i &&& 31 = 2) (hx : 200 ≤ (E.1 (E.2.2 c.1)).1) (v262_v4_g0 : ¬ (bI (sp_10 (xs (i + 1)))) = 0) (v262_v4_g1 : (bI (sp_10 (xs (i + 2)))) = 0) (v286_g0 : ¬ (xs (i + 1)) < 0) (v286_g1 : ¬ (1048576 : Int32) < (xs (i + 1))) (v286_g2 : ¬ (xs (i + 2)) < 0) (v286_g3 : (1048576 : Int32) < (xs (i + 2))) (K : ∀ u5 u6 u7 : Option xm_V, xm_G E 8 true 145 43 [some (xm_r (40, 0, 0)), some (xm_r (0, 0, 0)), some (xm_r (20, 0, 0)), some (xm_r (30, 0, 0)), some (xm_i (nI (i + 5))), u5, u6, u7] [] ((c.1 + 1, c.2 + 6), (xm_up fi (20, 0, 0) 0 (1 : Int32)), fl, r) R) : ∀ u5 u6 u7 : Option xm_V, xm_G E 8 true 145 43 [some (xm_r (40, 0, 0)), some (xm_r (0, 0, 0)), some (xm_r (20, 0, 0)), some (xm_r (30, 0, 0)), some (xm_i (nI i)), u5, u6, u7] [] (c, fi, fl, r) R := by
  have hn := sh_n hs
  intro u5 u6 u7
  refine pg_145_43 rfl ?_
  refine pg_145_45 rfl ?_
  refine pg_145_46 (t := 110) (n := L) (Or.inl hsc) ?_
  refine pg_145_47 ?_
  refine pg_145_48 ?_
  refine pg_145_49 (fun hc => absurd hc (lw_go hi hL)) (fun _ => ?_)
  refine pg_145_52 rfl ?_
  refine pg_145_53 rfl ?_
  refine pg_145_55 (n := L) (Or.inr hsc) (i := i) rfl (by omega) hL ?_
  refine go_top (y := xs i) (((kp_re [2000] fi) (40, 0, 0) _ rfl).trans (hxs _ (by omega))) ?_
  refine pg_145_56 ?_
  refine pg_145_58 ?_
  refine go_top (y := (2 : Int32)) hop ?_
  refine pg_145_59 (off := 184) (t := 243) (by decide) (by decide) ?_
  refine pg_145_243 rfl ?_
  refine pg_145_244 rfl ?_
  refine pg_145_245 rfl ?_
  refine pg_145_247 ?_
  refine pg_145_248 ?_
  refine go_top (y := nI (i + 1)) (nx_add rfl (rfl : (1 : Int32) = nI 1)) ?_
  refine pg_145_249 (n := L) (Or.inr hsc) (i := (i + 1)) rfl (by omega) hL ?_
  refine go_top (y := xs (i + 1)) (((kp_re [2000] fi) (40, 0, 0) _ rfl).trans (hxs _ (by omega))) ?_
  refine pg_145_250 rfl ?_
  refine pg_145_251 rfl ?_
  refine pg_145_253 ?_
  refine pg_145_254 ?_
  refine go_top (y := nI (i + 2)) (nx_add rfl (rfl : (2 : Int32) = nI 2)) ?_
  refine pg_145_255 (n := L) (Or.inr hsc) (i := (i + 2)) rfl (by omega) hL ?_
  refine go_top (y := xs (i + 2)) (((kp_re [2000] fi) (40, 0, 0) _ rfl).trans (hxs _ (by omega))) ?_
  refine pg_145_256 rfl ?_
  refine pg_145_257 rfl ?_
  refine pg_145_259 ?_
  refine pg_145_260 ?_
  refine go_top (y := nI (i + 3)) (nx_add rfl (rfl : (3 : Int32) = nI 3)) ?_
  refine pg_145_261 (n := L) (Or.inr hsc) (i := (i + 3)) rfl (by omega) hL ?_
  refine go_top (y := xs (i + 3)) (((kp_re [2000] fi) (40, 0, 0) _ rfl).trans (hxs _ (by omega))) ?_
  refine pg_145_262 (Nat.le_of_ble_eq_true rfl) (ct_128l1 (x := (xs (i + 1))) (y := (xs (i + 2))) (z := (xs (i + 3))) hs hx v262_v4_g0 v262_v4_g1) ?_
  have hs := sh_up hs
  refine pg_145_265 (lv' := [some (xm_r (40, 0, 0)), some (xm_r (0, 0, 0)), some (xm_r (20, 0, 0)), some (xm_r (30, 0, 0)), some (xm_i (nI i)), some (xm_i (1 : Int32)), u6, u7]) rfl ?_
  refine pg_145_267 rfl ?_
  refine pg_145_268 rfl ?_
  refine pg_145_269 rfl ?_
  refine pg_145_271 ?_
  refine pg_145_272 ?_
  refine go_top (y := nI (i + 1)) (nx_add rfl (rfl : (1 : Int32) = nI 1)) ?_
  refine pg_145_273 (n := L) (Or.inr hsc) (i := (i + 1)) rfl (by omega) hL ?_
  refine go_top (y := xs (i + 1)) (((kp_re [2000] fi) (40, 0, 0) _ rfl).trans (hxs _ (by omega))) ?_
  refine pg_145_274 rfl ?_
  refine pg_145_275 rfl ?_
  refine pg_145_277 ?_
  refine pg_145_278 ?_
  refine go_top (y := nI (i + 2)) (nx_add rfl (rfl : (2 : Int32) = nI 2)) ?_
  refine pg_145_279 (n := L) (Or.inr hsc) (i := (i + 2)) rfl (by omega) hL ?_
  refine go_top (y := xs (i + 2)) (((kp_re [2000] fi) (40, 0, 0) _ rfl).trans (hxs _ (by omega))) ?_
  refine pg_145_280 rfl ?_
  refine pg_145_281 rfl ?_
  refine pg_145_283 ?_
  refine pg_145_284 ?_
  refine go_top (y := nI (i + 3)) (nx_add rfl (rfl : (3 : Int32) = nI 3)) ?_
  refine pg_145_285 (n := L) (Or.inr hsc) (i := (i + 3)) rfl (by omega) hL ?_
  refine go_top (y := xs (i + 3)) (((kp_re [2000] fi) (40, 0, 0) _ rfl).trans (hxs _ (by omega))) ?_
  refine pg_145_286 (sk20 hs) (Nat.le_of_ble_eq_true rfl) (ct_101l3 (x := (xs (i + 1))) (y := (xs (i + 2))) (z := (xs (i + 3))) hs v286_g0 v286_g1 v286_g2 v286_g3) ?_
  refine pg_145_289 rfl ?_
  refine pg_145_290 (sk20 hs) (Nat.le_of_ble_eq_true rfl) (ct_69  hs) ?_
  refine go_top (y := (1 : Int32)) (by unfold sp_69; simp [xm_up]) ?_
  refine pg_145_293 rfl ?_
  refine pg_145_295 (fun _ => ?_) (fun hc => absurd (by decide) hc)
  refine pg_145_300 ?_
  refine pg_145_1274 (y := (nI (i + 5))) (lv' := [some (xm_r (40, 0, 0)), some (xm_r (0, 0, 0)), some (xm_r (20, 0, 0)), some (xm_r (30, 0, 0)), some (xm_i (nI (i + 5))), some (xm_i (1 : Int32)), u6, u7]) rfl (nI_add i 5) rfl ?_
  refine pg_145_1277 ?_
  exact K _ _ _
theorem lw_2_b4 {n : Nat} {E : xm_E} {c : Nat × Nat} {fi : FI} {fl : FL} {r : xm_I → Nat → Option xm_I} {L i : Nat} {xs : Nat → Int32} {R : xm_O} (hs : sh n E c r) (hf : fz n fi) (hB : BZ fi) (hsc : E.1 (40, 0, 0) = (110, L)) (hL : L < 100000) (hi : i + 5 ≤ L) (hxs : ∀ j, j < L → fi (40, 0, 0) j = xs j) (hop : xs i &&& 31 = 2) (hx : 200 ≤ (E.1 (E.2.2 c.1)).1) (v262_v4_g0 : ¬ (bI (sp_10 (xs (i + 1)))) = 0) (v262_v4_g1 : ¬ (bI (sp_10 (xs (i + 2)))) = 0) (v262_v4_g2 : (bI (sp_10 (xs (i + 3)))) = 0) (v286_g0 : ¬ (xs (i + 1)) < 0) (v286_g1 : ¬ (1048576 : Int32) < (xs (i + 1))) (v286_g2 : ¬ (xs (i + 2)) < 0) (v286_g3 : ¬ (1048576 : Int32) < (xs (i + 2))) (v286_g4 : (xs (i + 3)) < 0) (K : ∀ u5 u6 u7 : Option xm_V, xm_G E 8 true 145 43 [some (xm_r (40, 0, 0)), some (xm_r (0, 0, 0)), some (xm_r (20, 0, 0)), some (xm_r (30, 0, 0)), some (xm_i (nI (i + 5))), u5, u6, u7] [] ((c.1 + 1, c.2 + 6), (xm_up fi (20, 0, 0) 0 (1 : Int32)), fl, r) R) : ∀ u5 u6 u7 : Option xm_V, xm_G E 8 true 145 43 [some (xm_r (40, 0, 0)), some (xm_r (0, 0, 0)), some (xm_r (20, 0, 0)), some (xm_r (30, 0, 0)), some (xm_i (nI i)), u5, u6, u7] [] (c, fi, fl, r) R := by
  have hn := sh_n hs
  intro u5 u6 u7
  refine pg_145_43 rfl ?_
  refine pg_145_45 rfl ?_
  refine pg_145_46 (t := 110) (n := L) (Or.inl hsc) ?_
  refine pg_145_47 ?_
  refine pg_145_48 ?_
  refine pg_145_49 (fun hc => absurd hc (lw_go hi hL)) (fun _ => ?_)
  refine pg_145_52 rfl ?_
  refine pg_145_53 rfl ?_
  refine pg_145_55 (n := L) (Or.inr hsc) (i := i) rfl (by omega) hL ?_
  refine go_top (y := xs i) (((kp_re [2000] fi) (40, 0, 0) _ rfl).trans (hxs _ (by omega))) ?_
  refine pg_145_56 ?_
  refine pg_145_58 ?_
  refine go_top (y := (2 : Int32)) hop ?_
  refine pg_145_59 (off := 184) (t := 243) (by decide) (by decide) ?_
  refine pg_145_243 rfl ?_
  refine pg_145_244 rfl ?_
  refine pg_145_245 rfl ?_
  refine pg_145_247 ?_
  refine pg_145_248 ?_
  refine go_top (y := nI (i + 1)) (nx_add rfl (rfl : (1 : Int32) = nI 1)) ?_
  refine pg_145_249 (n := L) (Or.inr hsc) (i := (i + 1)) rfl (by omega) hL ?_
  refine go_top (y := xs (i + 1)) (((kp_re [2000] fi) (40, 0, 0) _ rfl).trans (hxs _ (by omega))) ?_
  refine pg_145_250 rfl ?_
  refine pg_145_251 rfl ?_
  refine pg_145_253 ?_
  refine pg_145_254 ?_
  refine go_top (y := nI (i + 2)) (nx_add rfl (rfl : (2 : Int32) = nI 2)) ?_
  refine pg_145_255 (n := L) (Or.inr hsc) (i := (i + 2)) rfl (by omega) hL ?_
  refine go_top (y := xs (i + 2)) (((kp_re [2000] fi) (40, 0, 0) _ rfl).trans (hxs _ (by omega))) ?_
  refine pg_145_256 rfl ?_
  refine pg_145_257 rfl ?_
  refine pg_145_259 ?_
  refine pg_145_260 ?_
  refine go_top (y := nI (i + 3)) (nx_add rfl (rfl : (3 : Int32) = nI 3)) ?_
  refine pg_145_261 (n := L) (Or.inr hsc) (i := (i + 3)) rfl (by omega) hL ?_
  refine go_top (y := xs (i + 3)) (((kp_re [2000] fi) (40, 0, 0) _ rfl).trans (hxs _ (by omega))) ?_
  refine pg_145_262 (Nat.le_of_ble_eq_true rfl) (ct_128l2 (x := (xs (i + 1))) (y := (xs (i + 2))) (z := (xs (i + 3))) hs hx v262_v4_g0 v262_v4_g1 v262_v4_g2) ?_
  have hs := sh_up hs
  refine pg_145_265 (lv' := [some (xm_r (40, 0, 0)), some (xm_r (0, 0, 0)), some (xm_r (20, 0, 0)), some (xm_r (30, 0, 0)), some (xm_i (nI i)), some (xm_i (1 : Int32)), u6, u7]) rfl ?_
  refine pg_145_267 rfl ?_
  refine pg_145_268 rfl ?_
  refine pg_145_269 rfl ?_
  refine pg_145_271 ?_
  refine pg_145_272 ?_
  refine go_top (y := nI (i + 1)) (nx_add rfl (rfl : (1 : Int32) = nI 1)) ?_
  refine pg_145_273 (n := L) (Or.inr hsc) (i := (i + 1)) rfl (by omega) hL ?_
  refine go_top (y := xs (i + 1)) (((kp_re [2000] fi) (40, 0, 0) _ rfl).trans (hxs _ (by omega))) ?_
  refine pg_145_274 rfl ?_
  refine pg_145_275 rfl ?_
  refine pg_145_277 ?_
  refine pg_145_278 ?_
  refine go_top (y := nI (i + 2)) (nx_add rfl (rfl : (2 : Int32) = nI 2)) ?_
  refine pg_145_279 (n := L) (Or.inr hsc) (i := (i + 2)) rfl (by omega) hL ?_
  refine go_top (y := xs (i + 2)) (((kp_re [2000] fi) (40, 0, 0) _ rfl).trans (hxs _ (by omega))) ?_
  refine pg_145_280 rfl ?_
  refine pg_145_281 rfl ?_
  refine pg_145_283 ?_
  refine pg_145_284 ?_
  refine go_top (y := nI (i + 3)) (nx_add rfl (rfl : (3 : Int32) = nI 3)) ?_
  refine pg_145_285 (n := L) (Or.inr hsc) (i := (i + 3)) rfl (by omega) hL ?_
  refine go_top (y := xs (i + 3)) (((kp_re [2000] fi) (40, 0, 0) _ rfl).trans (hxs _ (by omega))) ?_
  refine pg_145_286 (sk20 hs) (Nat.le_of_ble_eq_true rfl) (ct_101l4 (x := (xs (i + 1))) (y := (xs (i + 2))) (z := (xs (i + 3))) hs v286_g0 v286_g1 v286_g2 v286_g3 v286_g4) ?_
  refine pg_145_289 rfl ?_
  refine pg_145_290 (sk20 hs) (Nat.le_of_ble_eq_true rfl) (ct_69  hs) ?_
  refine go_top (y := (1 : Int32)) (by unfold sp_69; simp [xm_up]) ?_
  refine pg_145_293 rfl ?_
  refine pg_145_295 (fun _ => ?_) (fun hc => absurd (by decide) hc)
  refine pg_145_300 ?_
  refine pg_145_1274 (y := (nI (i + 5))) (lv' := [some (xm_r (40, 0, 0)), some (xm_r (0, 0, 0)), some (xm_r (20, 0, 0)), some (xm_r (30, 0, 0)), some (xm_i (nI (i + 5))), some (xm_i (1 : Int32)), u6, u7]) rfl (nI_add i 5) rfl ?_
  refine pg_145_1277 ?_
  exact K _ _ _
theorem lw_2_b5 {n : Nat} {E : xm_E} {c : Nat × Nat} {fi : FI} {fl : FL} {r : xm_I → Nat → Option xm_I} {L i : Nat} {xs : Nat → Int32} {R : xm_O} (hs : sh n E c r) (hf : fz n fi) (hB : BZ fi) (hsc : E.1 (40, 0, 0) = (110, L)) (hL : L < 100000) (hi : i + 5 ≤ L) (hxs : ∀ j, j < L → fi (40, 0, 0) j = xs j) (hop : xs i &&& 31 = 2) (hx : 200 ≤ (E.1 (E.2.2 c.1)).1) (v262_v4_g0 : ¬ (bI (sp_10 (xs (i + 1)))) = 0) (v262_v4_g1 : ¬ (bI (sp_10 (xs (i + 2)))) = 0) (v262_v4_g2 : (bI (sp_10 (xs (i + 3)))) = 0) (v286_g0 : ¬ (xs (i + 1)) < 0) (v286_g1 : ¬ (1048576 : Int32) < (xs (i + 1))) (v286_g2 : ¬ (xs (i + 2)) < 0) (v286_g3 : ¬ (1048576 : Int32) < (xs (i + 2))) (v286_g4 : ¬ (xs (i + 3)) < 0) (v286_g5 : ¬ (xs (i + 3)) ≤ (1048576 : Int32)) (K : ∀ u5 u6 u7 : Option xm_V, xm_G E 8 true 145 43 [some (xm_r (40, 0, 0)), some (xm_r (0, 0, 0)), some (xm_r (20, 0, 0)), some (xm_r (30, 0, 0)), some (xm_i (nI (i + 5))), u5, u6, u7] [] ((c.1 + 1, c.2 + 6), (xm_up fi (20, 0, 0) 0 (1 : Int32)), fl, r) R) : ∀ u5 u6 u7 : Option xm_V, xm_G E 8 true 145 43 [some (xm_r (40, 0, 0)), some (xm_r (0, 0, 0)), some (xm_r (20, 0, 0)), some (xm_r (30, 0, 0)), some (xm_i (nI i)), u5, u6, u7] [] (c, fi, fl, r) R := by
  have hn := sh_n hs
  intro u5 u6 u7
  refine pg_145_43 rfl ?_
  refine pg_145_45 rfl ?_
  refine pg_145_46 (t := 110) (n := L) (Or.inl hsc) ?_
  refine pg_145_47 ?_
  refine pg_145_48 ?_
  refine pg_145_49 (fun hc => absurd hc (lw_go hi hL)) (fun _ => ?_)
  refine pg_145_52 rfl ?_
  refine pg_145_53 rfl ?_
  refine pg_145_55 (n := L) (Or.inr hsc) (i := i) rfl (by omega) hL ?_
  refine go_top (y := xs i) (((kp_re [2000] fi) (40, 0, 0) _ rfl).trans (hxs _ (by omega))) ?_
  refine pg_145_56 ?_
  refine pg_145_58 ?_
  refine go_top (y := (2 : Int32)) hop ?_
  refine pg_145_59 (off := 184) (t := 243) (by decide) (by decide) ?_
  refine pg_145_243 rfl ?_
  refine pg_145_244 rfl ?_
  refine pg_145_245 rfl ?_
  refine pg_145_247 ?_
  refine pg_145_248 ?_
  refine go_top (y := nI (i + 1)) (nx_add rfl (rfl : (1 : Int32) = nI 1)) ?_
  refine pg_145_249 (n := L) (Or.inr hsc) (i := (i + 1)) rfl (by omega) hL ?_
  refine go_top (y := xs (i + 1)) (((kp_re [2000] fi) (40, 0, 0) _ rfl).trans (hxs _ (by omega))) ?_
  refine pg_145_250 rfl ?_
  refine pg_145_251 rfl ?_
  refine pg_145_253 ?_
  refine pg_145_254 ?_
  refine go_top (y := nI (i + 2)) (nx_add rfl (rfl : (2 : Int32) = nI 2)) ?_
  refine pg_145_255 (n := L) (Or.inr hsc) (i := (i + 2)) rfl (by omega) hL ?_
  refine go_top (y := xs (i + 2)) (((kp_re [2000] fi) (40, 0, 0) _ rfl).trans (hxs _ (by omega))) ?_
  refine pg_145_256 rfl ?_
  refine pg_145_257 rfl ?_
  refine pg_145_259 ?_
  refine pg_145_260 ?_
  refine go_top (y := nI (i + 3)) (nx_add rfl (rfl : (3 : Int32) = nI 3)) ?_
  refine pg_145_261 (n := L) (Or.inr hsc) (i := (i + 3)) rfl (by omega) hL ?_
  refine go_top (y := xs (i + 3)) (((kp_re [2000] fi) (40, 0, 0) _ rfl).trans (hxs _ (by omega))) ?_
  refine pg_145_262 (Nat.le_of_ble_eq_true rfl) (ct_128l2 (x := (xs (i + 1))) (y := (xs (i + 2))) (z := (xs (i + 3))) hs hx v262_v4_g0 v262_v4_g1 v262_v4_g2) ?_
  have hs := sh_up hs
  refine pg_145_265 (lv' := [some (xm_r (40, 0, 0)), some (xm_r (0, 0, 0)), some (xm_r (20, 0, 0)), some (xm_r (30, 0, 0)), some (xm_i (nI i)), some (xm_i (1 : Int32)), u6, u7]) rfl ?_
  refine pg_145_267 rfl ?_
  refine pg_145_268 rfl ?_
  refine pg_145_269 rfl ?_
  refine pg_145_271 ?_
  refine pg_145_272 ?_
  refine go_top (y := nI (i + 1)) (nx_add rfl (rfl : (1 : Int32) = nI 1)) ?_
  refine pg_145_273 (n := L) (Or.inr hsc) (i := (i + 1)) rfl (by omega) hL ?_
  refine go_top (y := xs (i + 1)) (((kp_re [2000] fi) (40, 0, 0) _ rfl).trans (hxs _ (by omega))) ?_
  refine pg_145_274 rfl ?_
  refine pg_145_275 rfl ?_
  refine pg_145_277 ?_
  refine pg_145_278 ?_
  refine go_top (y := nI (i + 2)) (nx_add rfl (rfl : (2 : Int32) = nI 2)) ?_
  refine pg_145_279 (n := L) (Or.inr hsc) (i := (i + 2)) rfl (by omega) hL ?_
  refine go_top (y := xs (i + 2)) (((kp_re [2000] fi) (40, 0, 0) _ rfl).trans (hxs _ (by omega))) ?_
  refine pg_145_280 rfl ?_
  refine pg_145_281 rfl ?_
  refine pg_145_283 ?_
  refine pg_145_284 ?_
  refine go_top (y := nI (i + 3)) (nx_add rfl (rfl : (3 : Int32) = nI 3)) ?_
  refine pg_145_285 (n := L) (Or.inr hsc) (i := (i + 3)) rfl (by omega) hL ?_
  refine go_top (y := xs (i + 3)) (((kp_re [2000] fi) (40, 0, 0) _ rfl).trans (hxs _ (by omega))) ?_
  refine pg_145_286 (sk20 hs) (Nat.le_of_ble_eq_true rfl) (ct_101l6 (x := (xs (i + 1))) (y := (xs (i + 2))) (z := (xs (i + 3))) hs v286_g0 v286_g1 v286_g2 v286_g3 v286_g4 v286_g5) ?_
  refine pg_145_289 rfl ?_
  refine pg_145_290 (sk20 hs) (Nat.le_of_ble_eq_true rfl) (ct_69  hs) ?_
  refine go_top (y := (1 : Int32)) (by unfold sp_69; simp [xm_up]) ?_
  refine pg_145_293 rfl ?_
  refine pg_145_295 (fun _ => ?_) (fun hc => absurd (by decide) hc)
  refine pg_145_300 ?_
  refine pg_145_1274 (y := (nI (i + 5))) (lv' := [some (xm_r (40, 0, 0)), some (xm_r (0, 0, 0)), some (xm_r (20, 0, 0)), some (xm_r (30, 0, 0)), some (xm_i (nI (i + 5))), some (xm_i (1 : Int32)), u6, u7]) rfl (nI_add i 5) rfl ?_
  refine pg_145_1277 ?_
  exact K _ _ _
theorem lw_3_ok {n : Nat} {E : xm_E} {c : Nat × Nat} {fi : FI} {fl : FL} {r : xm_I → Nat → Option xm_I} {L i : Nat} {xs : Nat → Int32} {p : Nat} {R : xm_O} (hs : sh n E c r) (hf : fz n fi) (hB : BZ fi) (hsc : E.1 (40, 0, 0) = (110, L)) (hL : L < 100000) (hi : i + 5 ≤ L) (hxs : ∀ j, j < L → fi (40, 0, 0) j = xs j) (hop : xs i &&& 31 = 3) (ho1 : xs (i + 1) = nI p) (hp : p < n) (v338_v4_g0 : ¬ (xs (i + 2)) < 0) (v338_v4_g1 : (xs (i + 2)) ≤ (4 : Int32)) (v378_g0 : ¬ (xs (i + 2)) < 0) (v378_g1 : (xs (i + 2)) ≤ (4 : Int32)) (K : ∀ u5 u6 u7 : Option xm_V, xm_G E 8 true 145 43 [some (xm_r (40, 0, 0)), some (xm_r (0, 0, 0)), some (xm_r (20, 0, 0)), some (xm_r (30, 0, 0)), some (xm_i (nI (i + 5))), u5, u6, u7] [] (c, (xm_up (xm_up (xm_up fi (3, 0, 0) p (xs (i + 2))) (20, 0, 0) 0 (0 : Int32)) (21, 9, 0) p (xs (i + 2))), (xm_up (xm_up fl (4, 0, 0) p ((((xs (i + 3)).toInt64) <<< ((32 : Int32).toInt64 &&& 63)) ||| (((xs (i + 4)).toInt64) &&& (4294967295 : Int64)))) (21, 10, 0) p ((((xs (i + 3)).toInt64) <<< ((32 : Int32).toInt64 &&& 63)) ||| (((xs (i + 4)).toInt64) &&& (4294967295 : Int64)))), r) R) : ∀ u5 u6 u7 : Option xm_V, xm_G E 8 true 145 43 [some (xm_r (40, 0, 0)), some (xm_r (0, 0, 0)), some (xm_r (20, 0, 0)), some (xm_r (30, 0, 0)), some (xm_i (nI i)), u5, u6, u7] [] (c, fi, fl, r) R := by
  have hn := sh_n hs
  intro u5 u6 u7
  refine pg_145_43 rfl ?_
  refine pg_145_45 rfl ?_
  refine pg_145_46 (t := 110) (n := L) (Or.inl hsc) ?_
  refine pg_145_47 ?_
  refine pg_145_48 ?_
  refine pg_145_49 (fun hc => absurd hc (lw_go hi hL)) (fun _ => ?_)
  refine pg_145_52 rfl ?_
  refine pg_145_53 rfl ?_
  refine pg_145_55 (n := L) (Or.inr hsc) (i := i) rfl (by omega) hL ?_
  refine go_top (y := xs i) (((kp_re [300, 2000, 2109] fi) (40, 0, 0) _ rfl).trans (hxs _ (by omega))) ?_
  refine pg_145_56 ?_
  refine pg_145_58 ?_
  refine go_top (y := (3 : Int32)) hop ?_
  refine pg_145_59 (off := 244) (t := 303) (by decide) (by decide) ?_
  refine pg_145_303 rfl ?_
  refine pg_145_304 rfl ?_
  refine pg_145_305 rfl ?_
  refine pg_145_307 ?_
  refine pg_145_308 ?_
  refine go_top (y := nI (i + 1)) (nx_add rfl (rfl : (1 : Int32) = nI 1)) ?_
  refine pg_145_309 (n := L) (Or.inr hsc) (i := (i + 1)) rfl (by omega) hL ?_
  refine go_top (y := xs (i + 1)) (((kp_re [300, 2000, 2109] fi) (40, 0, 0) _ rfl).trans (hxs _ (by omega))) ?_
  refine go_top (y := nI p) ho1 ?_
  refine pg_145_310 rfl ?_
  refine pg_145_311 rfl ?_
  refine pg_145_313 ?_
  refine pg_145_314 ?_
  refine go_top (y := nI (i + 2)) (nx_add rfl (rfl : (2 : Int32) = nI 2)) ?_
  refine pg_145_315 (n := L) (Or.inr hsc) (i := (i + 2)) rfl (by omega) hL ?_
  refine go_top (y := xs (i + 2)) (((kp_re [300, 2000, 2109] fi) (40, 0, 0) _ rfl).trans (hxs _ (by omega))) ?_
  refine pg_145_316 rfl ?_
  refine pg_145_317 rfl ?_
  refine pg_145_319 ?_
  refine pg_145_320 ?_
  refine go_top (y := nI (i + 3)) (nx_add rfl (rfl : (3 : Int32) = nI 3)) ?_
  refine pg_145_321 (n := L) (Or.inr hsc) (i := (i + 3)) rfl (by omega) hL ?_
  refine go_top (y := xs (i + 3)) (((kp_re [300, 2000, 2109] fi) (40, 0, 0) _ rfl).trans (hxs _ (by omega))) ?_
  refine pg_145_322 ?_
  refine pg_145_323 ?_
  refine pg_145_325 ?_
  refine pg_145_326 rfl ?_
  refine pg_145_327 rfl ?_
  refine pg_145_329 ?_
  refine pg_145_330 ?_
  refine go_top (y := nI (i + 4)) (nx_add rfl (rfl : (4 : Int32) = nI 4)) ?_
  refine pg_145_331 (n := L) (Or.inr hsc) (i := (i + 4)) rfl (by omega) hL ?_
  refine go_top (y := xs (i + 4)) (((kp_re [300, 2000, 2109] fi) (40, 0, 0) _ rfl).trans (hxs _ (by omega))) ?_
  refine pg_145_332 ?_
  refine pg_145_333 ?_
  refine pg_145_336 ?_
  refine pg_145_337 ?_
  refine pg_145_338 (Nat.le_of_ble_eq_true rfl) (ct_129v1 (p := p) (x := (xs (i + 2))) (y := ((((xs (i + 3)).toInt64) <<< ((32 : Int32).toInt64 &&& 63)) ||| (((xs (i + 4)).toInt64) &&& (4294967295 : Int64)))) hs (by omega) v338_v4_g0 v338_v4_g1) ?_
  refine pg_145_341 (lv' := [some (xm_r (40, 0, 0)), some (xm_r (0, 0, 0)), some (xm_r (20, 0, 0)), some (xm_r (30, 0, 0)), some (xm_i (nI i)), some (xm_i (0 : Int32)), u6, u7]) rfl ?_
  refine pg_145_343 rfl ?_
  refine pg_145_344 rfl ?_
  refine pg_145_345 rfl ?_
  refine pg_145_347 ?_
  refine pg_145_348 ?_
  refine go_top (y := nI (i + 1)) (nx_add rfl (rfl : (1 : Int32) = nI 1)) ?_
  refine pg_145_349 (n := L) (Or.inr hsc) (i := (i + 1)) rfl (by omega) hL ?_
  refine go_top (y := xs (i + 1)) (((kp_tr (kp_re [300, 2000, 2109] fi) rfl (kp_tr (kp_re [300] fi) rfl (kp_up (kp_re [300] fi) rfl))) (40, 0, 0) _ rfl).trans (hxs _ (by omega))) ?_
  refine go_top (y := nI p) ho1 ?_
  refine pg_145_350 rfl ?_
  refine pg_145_351 rfl ?_
  refine pg_145_353 ?_
  refine pg_145_354 ?_
  refine go_top (y := nI (i + 2)) (nx_add rfl (rfl : (2 : Int32) = nI 2)) ?_
  refine pg_145_355 (n := L) (Or.inr hsc) (i := (i + 2)) rfl (by omega) hL ?_
  refine go_top (y := xs (i + 2)) (((kp_tr (kp_re [300, 2000, 2109] fi) rfl (kp_tr (kp_re [300] fi) rfl (kp_up (kp_re [300] fi) rfl))) (40, 0, 0) _ rfl).trans (hxs _ (by omega))) ?_
  refine pg_145_356 rfl ?_
  refine pg_145_357 rfl ?_
  refine pg_145_359 ?_
  refine pg_145_360 ?_
  refine go_top (y := nI (i + 3)) (nx_add rfl (rfl : (3 : Int32) = nI 3)) ?_
  refine pg_145_361 (n := L) (Or.inr hsc) (i := (i + 3)) rfl (by omega) hL ?_
  refine go_top (y := xs (i + 3)) (((kp_tr (kp_re [300, 2000, 2109] fi) rfl (kp_tr (kp_re [300] fi) rfl (kp_up (kp_re [300] fi) rfl))) (40, 0, 0) _ rfl).trans (hxs _ (by omega))) ?_
  refine pg_145_362 ?_
  refine pg_145_363 ?_
  refine pg_145_365 ?_
  refine pg_145_366 rfl ?_
  refine pg_145_367 rfl ?_
  refine pg_145_369 ?_
  refine pg_145_370 ?_
  refine go_top (y := nI (i + 4)) (nx_add rfl (rfl : (4 : Int32) = nI 4)) ?_
  refine pg_145_371 (n := L) (Or.inr hsc) (i := (i + 4)) rfl (by omega) hL ?_
  refine go_top (y := xs (i + 4)) (((kp_tr (kp_re [300, 2000, 2109] fi) rfl (kp_tr (kp_re [300] fi) rfl (kp_up (kp_re [300] fi) rfl))) (40, 0, 0) _ rfl).trans (hxs _ (by omega))) ?_
  refine pg_145_372 ?_
  refine pg_145_373 ?_
  refine pg_145_376 ?_
  refine pg_145_377 ?_
  refine pg_145_378 (sk20 hs) (Nat.le_of_ble_eq_true rfl) (ct_102v1 (p := p) (x := (xs (i + 2))) (y := ((((xs (i + 3)).toInt64) <<< ((32 : Int32).toInt64 &&& 63)) ||| (((xs (i + 4)).toInt64) &&& (4294967295 : Int64)))) hs (by omega) (fz_kp hf (kp_tr (kp_re [300, 2000, 2109] fi) rfl (kp_tr (kp_re [300] fi) rfl (kp_up (kp_re [300] fi) rfl))) rfl rfl rfl) v378_g0 v378_g1) ?_
  refine pg_145_381 rfl ?_
  refine pg_145_382 (sk20 hs) (Nat.le_of_ble_eq_true rfl) (ct_69  hs) ?_
  refine go_top (y := (0 : Int32)) (by unfold sp_69; simp [xm_up]) ?_
  refine pg_145_385 rfl ?_
  refine pg_145_387 (fun _ => ?_) (fun hc => absurd (by decide) hc)
  refine pg_145_392 ?_
  refine pg_145_1274 (y := (nI (i + 5))) (lv' := [some (xm_r (40, 0, 0)), some (xm_r (0, 0, 0)), some (xm_r (20, 0, 0)), some (xm_r (30, 0, 0)), some (xm_i (nI (i + 5))), some (xm_i (0 : Int32)), u6, u7]) rfl (nI_add i 5) rfl ?_
  refine pg_145_1277 ?_
  exact K _ _ _
theorem lw_3_b0 {n : Nat} {E : xm_E} {c : Nat × Nat} {fi : FI} {fl : FL} {r : xm_I → Nat → Option xm_I} {L i : Nat} {xs : Nat → Int32} {p : Nat} {R : xm_O} (hs : sh n E c r) (hf : fz n fi) (hB : BZ fi) (hsc : E.1 (40, 0, 0) = (110, L)) (hL : L < 100000) (hi : i + 5 ≤ L) (hxs : ∀ j, j < L → fi (40, 0, 0) j = xs j) (hop : xs i &&& 31 = 3) (ho1 : xs (i + 1) = nI p) (hp : p < n) (hx : 200 ≤ (E.1 (E.2.2 c.1)).1) (v338_v4_g0 : (xs (i + 2)) < 0) (v378_g0 : (xs (i + 2)) < 0) (K : ∀ u5 u6 u7 : Option xm_V, xm_G E 8 true 145 43 [some (xm_r (40, 0, 0)), some (xm_r (0, 0, 0)), some (xm_r (20, 0, 0)), some (xm_r (30, 0, 0)), some (xm_i (nI (i + 5))), u5, u6, u7] [] ((c.1 + 1, c.2 + 6), (xm_up fi (20, 0, 0) 0 (1 : Int32)), fl, r) R) : ∀ u5 u6 u7 : Option xm_V, xm_G E 8 true 145 43 [some (xm_r (40, 0, 0)), some (xm_r (0, 0, 0)), some (xm_r (20, 0, 0)), some (xm_r (30, 0, 0)), some (xm_i (nI i)), u5, u6, u7] [] (c, fi, fl, r) R := by
  have hn := sh_n hs
  intro u5 u6 u7
  refine pg_145_43 rfl ?_
  refine pg_145_45 rfl ?_
  refine pg_145_46 (t := 110) (n := L) (Or.inl hsc) ?_
  refine pg_145_47 ?_
  refine pg_145_48 ?_
  refine pg_145_49 (fun hc => absurd hc (lw_go hi hL)) (fun _ => ?_)
  refine pg_145_52 rfl ?_
  refine pg_145_53 rfl ?_
  refine pg_145_55 (n := L) (Or.inr hsc) (i := i) rfl (by omega) hL ?_
  refine go_top (y := xs i) (((kp_re [2000] fi) (40, 0, 0) _ rfl).trans (hxs _ (by omega))) ?_
  refine pg_145_56 ?_
  refine pg_145_58 ?_
  refine go_top (y := (3 : Int32)) hop ?_
  refine pg_145_59 (off := 244) (t := 303) (by decide) (by decide) ?_
  refine pg_145_303 rfl ?_
  refine pg_145_304 rfl ?_
  refine pg_145_305 rfl ?_
  refine pg_145_307 ?_
  refine pg_145_308 ?_
  refine go_top (y := nI (i + 1)) (nx_add rfl (rfl : (1 : Int32) = nI 1)) ?_
  refine pg_145_309 (n := L) (Or.inr hsc) (i := (i + 1)) rfl (by omega) hL ?_
  refine go_top (y := xs (i + 1)) (((kp_re [2000] fi) (40, 0, 0) _ rfl).trans (hxs _ (by omega))) ?_
  refine go_top (y := nI p) ho1 ?_
  refine pg_145_310 rfl ?_
  refine pg_145_311 rfl ?_
  refine pg_145_313 ?_
  refine pg_145_314 ?_
  refine go_top (y := nI (i + 2)) (nx_add rfl (rfl : (2 : Int32) = nI 2)) ?_
  refine pg_145_315 (n := L) (Or.inr hsc) (i := (i + 2)) rfl (by omega) hL ?_
  refine go_top (y := xs (i + 2)) (((kp_re [2000] fi) (40, 0, 0) _ rfl).trans (hxs _ (by omega))) ?_
  refine pg_145_316 rfl ?_
  refine pg_145_317 rfl ?_
  refine pg_145_319 ?_
  refine pg_145_320 ?_
  refine go_top (y := nI (i + 3)) (nx_add rfl (rfl : (3 : Int32) = nI 3)) ?_
  refine pg_145_321 (n := L) (Or.inr hsc) (i := (i + 3)) rfl (by omega) hL ?_
  refine go_top (y := xs (i + 3)) (((kp_re [2000] fi) (40, 0, 0) _ rfl).trans (hxs _ (by omega))) ?_
  refine pg_145_322 ?_
  refine pg_145_323 ?_
  refine pg_145_325 ?_
  refine pg_145_326 rfl ?_
  refine pg_145_327 rfl ?_
  refine pg_145_329 ?_
  refine pg_145_330 ?_
  refine go_top (y := nI (i + 4)) (nx_add rfl (rfl : (4 : Int32) = nI 4)) ?_
  refine pg_145_331 (n := L) (Or.inr hsc) (i := (i + 4)) rfl (by omega) hL ?_
  refine go_top (y := xs (i + 4)) (((kp_re [2000] fi) (40, 0, 0) _ rfl).trans (hxs _ (by omega))) ?_
  refine pg_145_332 ?_
  refine pg_145_333 ?_
  refine pg_145_336 ?_
  refine pg_145_337 ?_
  refine pg_145_338 (Nat.le_of_ble_eq_true rfl) (ct_129v0 (p := p) (x := (xs (i + 2))) (y := ((((xs (i + 3)).toInt64) <<< ((32 : Int32).toInt64 &&& 63)) ||| (((xs (i + 4)).toInt64) &&& (4294967295 : Int64)))) hs (by omega) hx v338_v4_g0) ?_
  have hs := sh_up hs
  refine pg_145_341 (lv' := [some (xm_r (40, 0, 0)), some (xm_r (0, 0, 0)), some (xm_r (20, 0, 0)), some (xm_r (30, 0, 0)), some (xm_i (nI i)), some (xm_i (1 : Int32)), u6, u7]) rfl ?_
  refine pg_145_343 rfl ?_
  refine pg_145_344 rfl ?_
  refine pg_145_345 rfl ?_
  refine pg_145_347 ?_
  refine pg_145_348 ?_
  refine go_top (y := nI (i + 1)) (nx_add rfl (rfl : (1 : Int32) = nI 1)) ?_
  refine pg_145_349 (n := L) (Or.inr hsc) (i := (i + 1)) rfl (by omega) hL ?_
  refine go_top (y := xs (i + 1)) (((kp_re [2000] fi) (40, 0, 0) _ rfl).trans (hxs _ (by omega))) ?_
  refine go_top (y := nI p) ho1 ?_
  refine pg_145_350 rfl ?_
  refine pg_145_351 rfl ?_
  refine pg_145_353 ?_
  refine pg_145_354 ?_
  refine go_top (y := nI (i + 2)) (nx_add rfl (rfl : (2 : Int32) = nI 2)) ?_
  refine pg_145_355 (n := L) (Or.inr hsc) (i := (i + 2)) rfl (by omega) hL ?_
  refine go_top (y := xs (i + 2)) (((kp_re [2000] fi) (40, 0, 0) _ rfl).trans (hxs _ (by omega))) ?_
  refine pg_145_356 rfl ?_
  refine pg_145_357 rfl ?_
  refine pg_145_359 ?_
  refine pg_145_360 ?_
  refine go_top (y := nI (i + 3)) (nx_add rfl (rfl : (3 : Int32) = nI 3)) ?_
  refine pg_145_361 (n := L) (Or.inr hsc) (i := (i + 3)) rfl (by omega) hL ?_
  refine go_top (y := xs (i + 3)) (((kp_re [2000] fi) (40, 0, 0) _ rfl).trans (hxs _ (by omega))) ?_
  refine pg_145_362 ?_
  refine pg_145_363 ?_
  refine pg_145_365 ?_
  refine pg_145_366 rfl ?_
  refine pg_145_367 rfl ?_
  refine pg_145_369 ?_
  refine pg_145_370 ?_
  refine go_top (y := nI (i + 4)) (nx_add rfl (rfl : (4 : Int32) = nI 4)) ?_
  refine pg_145_371 (n := L) (Or.inr hsc) (i := (i + 4)) rfl (by omega) hL ?_
  refine go_top (y := xs (i + 4)) (((kp_re [2000] fi) (40, 0, 0) _ rfl).trans (hxs _ (by omega))) ?_
  refine pg_145_372 ?_
  refine pg_145_373 ?_
  refine pg_145_376 ?_
  refine pg_145_377 ?_
  refine pg_145_378 (sk20 hs) (Nat.le_of_ble_eq_true rfl) (ct_102v0 (p := p) (x := (xs (i + 2))) (y := ((((xs (i + 3)).toInt64) <<< ((32 : Int32).toInt64 &&& 63)) ||| (((xs (i + 4)).toInt64) &&& (4294967295 : Int64)))) hs (by omega) (fz_kp hf (kp_re [2000] fi) rfl rfl rfl) v378_g0) ?_
  refine pg_145_381 rfl ?_
  refine pg_145_382 (sk20 hs) (Nat.le_of_ble_eq_true rfl) (ct_69  hs) ?_
  refine go_top (y := (1 : Int32)) (by unfold sp_69; simp [xm_up]) ?_
  refine pg_145_385 rfl ?_
  refine pg_145_387 (fun _ => ?_) (fun hc => absurd (by decide) hc)
  refine pg_145_392 ?_
  refine pg_145_1274 (y := (nI (i + 5))) (lv' := [some (xm_r (40, 0, 0)), some (xm_r (0, 0, 0)), some (xm_r (20, 0, 0)), some (xm_r (30, 0, 0)), some (xm_i (nI (i + 5))), some (xm_i (1 : Int32)), u6, u7]) rfl (nI_add i 5) rfl ?_
  refine pg_145_1277 ?_
  exact K _ _ _
theorem lw_3_b1 {n : Nat} {E : xm_E} {c : Nat × Nat} {fi : FI} {fl : FL} {r : xm_I → Nat → Option xm_I} {L i : Nat} {xs : Nat → Int32} {p : Nat} {R : xm_O} (hs : sh n E c r) (hf : fz n fi) (hB : BZ fi) (hsc : E.1 (40, 0, 0) = (110, L)) (hL : L < 100000) (hi : i + 5 ≤ L) (hxs : ∀ j, j < L → fi (40, 0, 0) j = xs j) (hop : xs i &&& 31 = 3) (ho1 : xs (i + 1) = nI p) (hp : p < n) (hx : 200 ≤ (E.1 (E.2.2 c.1)).1) (v338_v4_g0 : ¬ (xs (i + 2)) < 0) (v338_v4_g1 : ¬ (xs (i + 2)) ≤ (4 : Int32)) (v378_g0 : ¬ (xs (i + 2)) < 0) (v378_g1 : ¬ (xs (i + 2)) ≤ (4 : Int32)) (K : ∀ u5 u6 u7 : Option xm_V, xm_G E 8 true 145 43 [some (xm_r (40, 0, 0)), some (xm_r (0, 0, 0)), some (xm_r (20, 0, 0)), some (xm_r (30, 0, 0)), some (xm_i (nI (i + 5))), u5, u6, u7] [] ((c.1 + 1, c.2 + 6), (xm_up fi (20, 0, 0) 0 (1 : Int32)), fl, r) R) : ∀ u5 u6 u7 : Option xm_V, xm_G E 8 true 145 43 [some (xm_r (40, 0, 0)), some (xm_r (0, 0, 0)), some (xm_r (20, 0, 0)), some (xm_r (30, 0, 0)), some (xm_i (nI i)), u5, u6, u7] [] (c, fi, fl, r) R := by
  have hn := sh_n hs
  intro u5 u6 u7
  refine pg_145_43 rfl ?_
  refine pg_145_45 rfl ?_
  refine pg_145_46 (t := 110) (n := L) (Or.inl hsc) ?_
  refine pg_145_47 ?_
  refine pg_145_48 ?_
  refine pg_145_49 (fun hc => absurd hc (lw_go hi hL)) (fun _ => ?_)
  refine pg_145_52 rfl ?_
  refine pg_145_53 rfl ?_
  refine pg_145_55 (n := L) (Or.inr hsc) (i := i) rfl (by omega) hL ?_
  refine go_top (y := xs i) (((kp_re [2000] fi) (40, 0, 0) _ rfl).trans (hxs _ (by omega))) ?_
  refine pg_145_56 ?_
  refine pg_145_58 ?_
  refine go_top (y := (3 : Int32)) hop ?_
  refine pg_145_59 (off := 244) (t := 303) (by decide) (by decide) ?_
  refine pg_145_303 rfl ?_
  refine pg_145_304 rfl ?_
  refine pg_145_305 rfl ?_
  refine pg_145_307 ?_
  refine pg_145_308 ?_
  refine go_top (y := nI (i + 1)) (nx_add rfl (rfl : (1 : Int32) = nI 1)) ?_
  refine pg_145_309 (n := L) (Or.inr hsc) (i := (i + 1)) rfl (by omega) hL ?_
  refine go_top (y := xs (i + 1)) (((kp_re [2000] fi) (40, 0, 0) _ rfl).trans (hxs _ (by omega))) ?_
  refine go_top (y := nI p) ho1 ?_
  refine pg_145_310 rfl ?_
  refine pg_145_311 rfl ?_
  refine pg_145_313 ?_
  refine pg_145_314 ?_
  refine go_top (y := nI (i + 2)) (nx_add rfl (rfl : (2 : Int32) = nI 2)) ?_
  refine pg_145_315 (n := L) (Or.inr hsc) (i := (i + 2)) rfl (by omega) hL ?_
  refine go_top (y := xs (i + 2)) (((kp_re [2000] fi) (40, 0, 0) _ rfl).trans (hxs _ (by omega))) ?_
  refine pg_145_316 rfl ?_
  refine pg_145_317 rfl ?_
  refine pg_145_319 ?_
  refine pg_145_320 ?_
  refine go_top (y := nI (i + 3)) (nx_add rfl (rfl : (3 : Int32) = nI 3)) ?_
  refine pg_145_321 (n := L) (Or.inr hsc) (i := (i + 3)) rfl (by omega) hL ?_
  refine go_top (y := xs (i + 3)) (((kp_re [2000] fi) (40, 0, 0) _ rfl).trans (hxs _ (by omega))) ?_
  refine pg_145_322 ?_
  refine pg_145_323 ?_
  refine pg_145_325 ?_
  refine pg_145_326 rfl ?_
  refine pg_145_327 rfl ?_
  refine pg_145_329 ?_
  refine pg_145_330 ?_
  refine go_top (y := nI (i + 4)) (nx_add rfl (rfl : (4 : Int32) = nI 4)) ?_
  refine pg_145_331 (n := L) (Or.inr hsc) (i := (i + 4)) rfl (by omega) hL ?_
  refine go_top (y := xs (i + 4)) (((kp_re [2000] fi) (40, 0, 0) _ rfl).trans (hxs _ (by omega))) ?_
  refine pg_145_332 ?_
  refine pg_145_333 ?_
  refine pg_145_336 ?_
  refine pg_145_337 ?_
  refine pg_145_338 (Nat.le_of_ble_eq_true rfl) (ct_129v2 (p := p) (x := (xs (i + 2))) (y := ((((xs (i + 3)).toInt64) <<< ((32 : Int32).toInt64 &&& 63)) ||| (((xs (i + 4)).toInt64) &&& (4294967295 : Int64)))) hs (by omega) hx v338_v4_g0 v338_v4_g1) ?_
  have hs := sh_up hs
  refine pg_145_341 (lv' := [some (xm_r (40, 0, 0)), some (xm_r (0, 0, 0)), some (xm_r (20, 0, 0)), some (xm_r (30, 0, 0)), some (xm_i (nI i)), some (xm_i (1 : Int32)), u6, u7]) rfl ?_
  refine pg_145_343 rfl ?_
  refine pg_145_344 rfl ?_
  refine pg_145_345 rfl ?_
  refine pg_145_347 ?_
  refine pg_145_348 ?_
  refine go_top (y := nI (i + 1)) (nx_add rfl (rfl : (1 : Int32) = nI 1)) ?_
  refine pg_145_349 (n := L) (Or.inr hsc) (i := (i + 1)) rfl (by omega) hL ?_
  refine go_top (y := xs (i + 1)) (((kp_re [2000] fi) (40, 0, 0) _ rfl).trans (hxs _ (by omega))) ?_
  refine go_top (y := nI p) ho1 ?_
  refine pg_145_350 rfl ?_
  refine pg_145_351 rfl ?_
  refine pg_145_353 ?_
  refine pg_145_354 ?_
  refine go_top (y := nI (i + 2)) (nx_add rfl (rfl : (2 : Int32) = nI 2)) ?_
  refine pg_145_355 (n := L) (Or.inr hsc) (i := (i + 2)) rfl (by omega) hL ?_
  refine go_top (y := xs (i + 2)) (((kp_re [2000] fi) (40, 0, 0) _ rfl).trans (hxs _ (by omega))) ?_
  refine pg_145_356 rfl ?_
  refine pg_145_357 rfl ?_
  refine pg_145_359 ?_
  refine pg_145_360 ?_
  refine go_top (y := nI (i + 3)) (nx_add rfl (rfl : (3 : Int32) = nI 3)) ?_
  refine pg_145_361 (n := L) (Or.inr hsc) (i := (i + 3)) rfl (by omega) hL ?_
  refine go_top (y := xs (i + 3)) (((kp_re [2000] fi) (40, 0, 0) _ rfl).trans (hxs _ (by omega))) ?_
  refine pg_145_362 ?_
  refine pg_145_363 ?_
  refine pg_145_365 ?_
  refine pg_145_366 rfl ?_
  refine pg_145_367 rfl ?_
  refine pg_145_369 ?_
  refine pg_145_370 ?_
  refine go_top (y := nI (i + 4)) (nx_add rfl (rfl : (4 : Int32) = nI 4)) ?_
  refine pg_145_371 (n := L) (Or.inr hsc) (i := (i + 4)) rfl (by omega) hL ?_
  refine go_top (y := xs (i + 4)) (((kp_re [2000] fi) (40, 0, 0) _ rfl).trans (hxs _ (by omega))) ?_
  refine pg_145_372 ?_
  refine pg_145_373 ?_
  refine pg_145_376 ?_
  refine pg_145_377 ?_
  refine pg_145_378 (sk20 hs) (Nat.le_of_ble_eq_true rfl) (ct_102v2 (p := p) (x := (xs (i + 2))) (y := ((((xs (i + 3)).toInt64) <<< ((32 : Int32).toInt64 &&& 63)) ||| (((xs (i + 4)).toInt64) &&& (4294967295 : Int64)))) hs (by omega) (fz_kp hf (kp_re [2000] fi) rfl rfl rfl) v378_g0 v378_g1) ?_
  refine pg_145_381 rfl ?_
  refine pg_145_382 (sk20 hs) (Nat.le_of_ble_eq_true rfl) (ct_69  hs) ?_
  refine go_top (y := (1 : Int32)) (by unfold sp_69; simp [xm_up]) ?_
  refine pg_145_385 rfl ?_
  refine pg_145_387 (fun _ => ?_) (fun hc => absurd (by decide) hc)
  refine pg_145_392 ?_
  refine pg_145_1274 (y := (nI (i + 5))) (lv' := [some (xm_r (40, 0, 0)), some (xm_r (0, 0, 0)), some (xm_r (20, 0, 0)), some (xm_r (30, 0, 0)), some (xm_i (nI (i + 5))), some (xm_i (1 : Int32)), u6, u7]) rfl (nI_add i 5) rfl ?_
  refine pg_145_1277 ?_
  exact K _ _ _
theorem lw_3_i {n : Nat} {E : xm_E} {c : Nat × Nat} {fi : FI} {fl : FL} {r : xm_I → Nat → Option xm_I} {L i : Nat} {xs : Nat → Int32} {R : xm_O} (hs : sh n E c r) (hf : fz n fi) (hB : BZ fi) (hsc : E.1 (40, 0, 0) = (110, L)) (hL : L < 100000) (hi : i + 5 ≤ L) (hxs : ∀ j, j < L → fi (40, 0, 0) j = xs j) (hop : xs i &&& 31 = 3) (hx : 200 ≤ (E.1 (E.2.2 c.1)).1) (v338_v4_g0 : (bI (sp_8 n (xs (i + 1)))) = 0) (v378_g0 : ¬ (bI (sp_99 n (xs (i + 1)))) = 0) (K : ∀ u5 u6 u7 : Option xm_V, xm_G E 8 true 145 43 [some (xm_r (40, 0, 0)), some (xm_r (0, 0, 0)), some (xm_r (20, 0, 0)), some (xm_r (30, 0, 0)), some (xm_i (nI (i + 5))), u5, u6, u7] [] ((c.1 + 1, c.2 + 6), (xm_up fi (20, 0, 0) 0 (1 : Int32)), fl, r) R) : ∀ u5 u6 u7 : Option xm_V, xm_G E 8 true 145 43 [some (xm_r (40, 0, 0)), some (xm_r (0, 0, 0)), some (xm_r (20, 0, 0)), some (xm_r (30, 0, 0)), some (xm_i (nI i)), u5, u6, u7] [] (c, fi, fl, r) R := by
  have hn := sh_n hs
  intro u5 u6 u7
  refine pg_145_43 rfl ?_
  refine pg_145_45 rfl ?_
  refine pg_145_46 (t := 110) (n := L) (Or.inl hsc) ?_
  refine pg_145_47 ?_
  refine pg_145_48 ?_
  refine pg_145_49 (fun hc => absurd hc (lw_go hi hL)) (fun _ => ?_)
  refine pg_145_52 rfl ?_
  refine pg_145_53 rfl ?_
  refine pg_145_55 (n := L) (Or.inr hsc) (i := i) rfl (by omega) hL ?_
  refine go_top (y := xs i) (((kp_re [2000] fi) (40, 0, 0) _ rfl).trans (hxs _ (by omega))) ?_
  refine pg_145_56 ?_
  refine pg_145_58 ?_
  refine go_top (y := (3 : Int32)) hop ?_
  refine pg_145_59 (off := 244) (t := 303) (by decide) (by decide) ?_
  refine pg_145_303 rfl ?_
  refine pg_145_304 rfl ?_
  refine pg_145_305 rfl ?_
  refine pg_145_307 ?_
  refine pg_145_308 ?_
  refine go_top (y := nI (i + 1)) (nx_add rfl (rfl : (1 : Int32) = nI 1)) ?_
  refine pg_145_309 (n := L) (Or.inr hsc) (i := (i + 1)) rfl (by omega) hL ?_
  refine go_top (y := xs (i + 1)) (((kp_re [2000] fi) (40, 0, 0) _ rfl).trans (hxs _ (by omega))) ?_
  refine pg_145_310 rfl ?_
  refine pg_145_311 rfl ?_
  refine pg_145_313 ?_
  refine pg_145_314 ?_
  refine go_top (y := nI (i + 2)) (nx_add rfl (rfl : (2 : Int32) = nI 2)) ?_
  refine pg_145_315 (n := L) (Or.inr hsc) (i := (i + 2)) rfl (by omega) hL ?_
  refine go_top (y := xs (i + 2)) (((kp_re [2000] fi) (40, 0, 0) _ rfl).trans (hxs _ (by omega))) ?_
  refine pg_145_316 rfl ?_
  refine pg_145_317 rfl ?_
  refine pg_145_319 ?_
  refine pg_145_320 ?_
  refine go_top (y := nI (i + 3)) (nx_add rfl (rfl : (3 : Int32) = nI 3)) ?_
  refine pg_145_321 (n := L) (Or.inr hsc) (i := (i + 3)) rfl (by omega) hL ?_
  refine go_top (y := xs (i + 3)) (((kp_re [2000] fi) (40, 0, 0) _ rfl).trans (hxs _ (by omega))) ?_
  refine pg_145_322 ?_
  refine pg_145_323 ?_
  refine pg_145_325 ?_
  refine pg_145_326 rfl ?_
  refine pg_145_327 rfl ?_
  refine pg_145_329 ?_
  refine pg_145_330 ?_
  refine go_top (y := nI (i + 4)) (nx_add rfl (rfl : (4 : Int32) = nI 4)) ?_
  refine pg_145_331 (n := L) (Or.inr hsc) (i := (i + 4)) rfl (by omega) hL ?_
  refine go_top (y := xs (i + 4)) (((kp_re [2000] fi) (40, 0, 0) _ rfl).trans (hxs _ (by omega))) ?_
  refine pg_145_332 ?_
  refine pg_145_333 ?_
  refine pg_145_336 ?_
  refine pg_145_337 ?_
  refine pg_145_338 (Nat.le_of_ble_eq_true rfl) (ct_129i0 (x := (xs (i + 1))) (y := (xs (i + 2))) (z := ((((xs (i + 3)).toInt64) <<< ((32 : Int32).toInt64 &&& 63)) ||| (((xs (i + 4)).toInt64) &&& (4294967295 : Int64)))) hs hx v338_v4_g0) ?_
  have hs := sh_up hs
  refine pg_145_341 (lv' := [some (xm_r (40, 0, 0)), some (xm_r (0, 0, 0)), some (xm_r (20, 0, 0)), some (xm_r (30, 0, 0)), some (xm_i (nI i)), some (xm_i (1 : Int32)), u6, u7]) rfl ?_
  refine pg_145_343 rfl ?_
  refine pg_145_344 rfl ?_
  refine pg_145_345 rfl ?_
  refine pg_145_347 ?_
  refine pg_145_348 ?_
  refine go_top (y := nI (i + 1)) (nx_add rfl (rfl : (1 : Int32) = nI 1)) ?_
  refine pg_145_349 (n := L) (Or.inr hsc) (i := (i + 1)) rfl (by omega) hL ?_
  refine go_top (y := xs (i + 1)) (((kp_re [2000] fi) (40, 0, 0) _ rfl).trans (hxs _ (by omega))) ?_
  refine pg_145_350 rfl ?_
  refine pg_145_351 rfl ?_
  refine pg_145_353 ?_
  refine pg_145_354 ?_
  refine go_top (y := nI (i + 2)) (nx_add rfl (rfl : (2 : Int32) = nI 2)) ?_
  refine pg_145_355 (n := L) (Or.inr hsc) (i := (i + 2)) rfl (by omega) hL ?_
  refine go_top (y := xs (i + 2)) (((kp_re [2000] fi) (40, 0, 0) _ rfl).trans (hxs _ (by omega))) ?_
  refine pg_145_356 rfl ?_
  refine pg_145_357 rfl ?_
  refine pg_145_359 ?_
  refine pg_145_360 ?_
  refine go_top (y := nI (i + 3)) (nx_add rfl (rfl : (3 : Int32) = nI 3)) ?_
  refine pg_145_361 (n := L) (Or.inr hsc) (i := (i + 3)) rfl (by omega) hL ?_
  refine go_top (y := xs (i + 3)) (((kp_re [2000] fi) (40, 0, 0) _ rfl).trans (hxs _ (by omega))) ?_
  refine pg_145_362 ?_
  refine pg_145_363 ?_
  refine pg_145_365 ?_
  refine pg_145_366 rfl ?_
  refine pg_145_367 rfl ?_
  refine pg_145_369 ?_
  refine pg_145_370 ?_
  refine go_top (y := nI (i + 4)) (nx_add rfl (rfl : (4 : Int32) = nI 4)) ?_
  refine pg_145_371 (n := L) (Or.inr hsc) (i := (i + 4)) rfl (by omega) hL ?_
  refine go_top (y := xs (i + 4)) (((kp_re [2000] fi) (40, 0, 0) _ rfl).trans (hxs _ (by omega))) ?_
  refine pg_145_372 ?_
  refine pg_145_373 ?_
  refine pg_145_376 ?_
  refine pg_145_377 ?_
  refine pg_145_378 (sk20 hs) (Nat.le_of_ble_eq_true rfl) (ct_102i2 (x := (xs (i + 1))) (y := (xs (i + 2))) (z := ((((xs (i + 3)).toInt64) <<< ((32 : Int32).toInt64 &&& 63)) ||| (((xs (i + 4)).toInt64) &&& (4294967295 : Int64)))) hs (fz_kp hf (kp_re [2000] fi) rfl rfl rfl) v378_g0) ?_
  refine pg_145_381 rfl ?_
  refine pg_145_382 (sk20 hs) (Nat.le_of_ble_eq_true rfl) (ct_69  hs) ?_
  refine go_top (y := (1 : Int32)) (by unfold sp_69; simp [xm_up]) ?_
  refine pg_145_385 rfl ?_
  refine pg_145_387 (fun _ => ?_) (fun hc => absurd (by decide) hc)
  refine pg_145_392 ?_
  refine pg_145_1274 (y := (nI (i + 5))) (lv' := [some (xm_r (40, 0, 0)), some (xm_r (0, 0, 0)), some (xm_r (20, 0, 0)), some (xm_r (30, 0, 0)), some (xm_i (nI (i + 5))), some (xm_i (1 : Int32)), u6, u7]) rfl (nI_add i 5) rfl ?_
  refine pg_145_1277 ?_
  exact K _ _ _
theorem lw_4_v0 {n : Nat} {E : xm_E} {c : Nat × Nat} {fi : FI} {fl : FL} {r : xm_I → Nat → Option xm_I} {L i : Nat} {xs : Nat → Int32} {p : Nat} {R : xm_O} (hs : sh n E c r) (hf : fz n fi) (hB : BZ fi) (hsc : E.1 (40, 0, 0) = (110, L)) (hL : L < 100000) (hi : i + 5 ≤ L) (hxs : ∀ j, j < L → fi (40, 0, 0) j = xs j) (hop : xs i &&& 31 = 4) (ho1 : xs (i + 1) = nI p) (hp : p < n) (g0 : (lg_cmp ((xm_up fl (30, 0, 0) 0 (if (bI ((sp_44 fi p).1)) = 0 then (0 : Int64) else (1 : Int64))) (30, 0, 0) 0) (1 : Int64)) = 0) (v415_g0 : (((sp_44 fi p).2) (21, 11, 0) p) = 0) (K : ∀ u5 u6 u7 : Option xm_V, xm_G E 8 true 145 43 [some (xm_r (40, 0, 0)), some (xm_r (0, 0, 0)), some (xm_r (20, 0, 0)), some (xm_r (30, 0, 0)), some (xm_i (nI (i + 5))), u5, u6, u7] [] (c, (xm_up (xm_up (xm_up (xm_up ((sp_44 fi p).2) (20, 0, 0) 0 (0 : Int32)) (21, 11, 0) p (1 : Int32)) (21, 18, 0) p (0 : Int32)) (21, 19, 0) p (0 : Int32)), (xm_up fl (30, 0, 0) 0 (if (bI ((sp_44 fi p).1)) = 0 then (0 : Int64) else (1 : Int64))), r) R) : ∀ u5 u6 u7 : Option xm_V, xm_G E 8 true 145 43 [some (xm_r (40, 0, 0)), some (xm_r (0, 0, 0)), some (xm_r (20, 0, 0)), some (xm_r (30, 0, 0)), some (xm_i (nI i)), u5, u6, u7] [] (c, fi, fl, r) R := by
  have hn := sh_n hs
  intro u5 u6 u7
  refine pg_145_43 rfl ?_
  refine pg_145_45 rfl ?_
  refine pg_145_46 (t := 110) (n := L) (Or.inl hsc) ?_
  refine pg_145_47 ?_
  refine pg_145_48 ?_
  refine pg_145_49 (fun hc => absurd hc (lw_go hi hL)) (fun _ => ?_)
  refine pg_145_52 rfl ?_
  refine pg_145_53 rfl ?_
  refine pg_145_55 (n := L) (Or.inr hsc) (i := i) rfl (by omega) hL ?_
  refine go_top (y := xs i) (((kp_re [703, 710, 711, 2000, 2111, 2118, 2119] fi) (40, 0, 0) _ rfl).trans (hxs _ (by omega))) ?_
  refine pg_145_56 ?_
  refine pg_145_58 ?_
  refine go_top (y := (4 : Int32)) hop ?_
  refine pg_145_59 (off := 336) (t := 395) (by decide) (by decide) ?_
  refine pg_145_395 rfl ?_
  refine pg_145_396 rfl ?_
  refine pg_145_397 rfl ?_
  refine pg_145_399 ?_
  refine pg_145_400 ?_
  refine go_top (y := nI (i + 1)) (nx_add rfl (rfl : (1 : Int32) = nI 1)) ?_
  refine pg_145_401 (n := L) (Or.inr hsc) (i := (i + 1)) rfl (by omega) hL ?_
  refine go_top (y := xs (i + 1)) (((kp_re [703, 710, 711, 2000, 2111, 2118, 2119] fi) (40, 0, 0) _ rfl).trans (hxs _ (by omega))) ?_
  refine go_top (y := nI p) ho1 ?_
  refine pg_145_402 rfl ?_
  refine pg_145_403 (Nat.le_of_ble_eq_true rfl) (ct_130v0 (p := p) hs (by omega)) ?_
  refine pg_145_406 (lv' := [some (xm_r (40, 0, 0)), some (xm_r (0, 0, 0)), some (xm_r (20, 0, 0)), some (xm_r (30, 0, 0)), some (xm_i (nI i)), some (xm_i (0 : Int32)), u6, u7]) rfl ?_
  refine pg_145_408 rfl ?_
  refine pg_145_409 rfl ?_
  refine pg_145_410 rfl ?_
  refine pg_145_412 ?_
  refine pg_145_413 ?_
  refine go_top (y := nI (i + 1)) (nx_add rfl (rfl : (1 : Int32) = nI 1)) ?_
  refine pg_145_414 (n := L) (Or.inr hsc) (i := (i + 1)) rfl (by omega) hL ?_
  refine go_top (y := xs (i + 1)) (((kp_tr (kp_re [703, 710, 711, 2000, 2111, 2118, 2119] fi) rfl (kp_tr (kp_re [703, 710, 711] fi) rfl (kp_tr (kp_re [703, 710, 711] fi) rfl (kp_sp_44 fi p)))) (40, 0, 0) _ rfl).trans (hxs _ (by omega))) ?_
  refine go_top (y := nI p) ho1 ?_
  refine pg_145_415 (sk20 hs) (Nat.le_of_ble_eq_true rfl) (ct_103v0 (p := p) hs (by omega) (fz_kp hf (kp_tr (kp_re [703, 710, 711, 2000, 2111, 2118, 2119] fi) rfl (kp_tr (kp_re [703, 710, 711] fi) rfl (kp_tr (kp_re [703, 710, 711] fi) rfl (kp_sp_44 fi p)))) rfl rfl rfl) v415_g0) ?_
  refine pg_145_418 (lv' := [some (xm_r (40, 0, 0)), some (xm_r (0, 0, 0)), some (xm_r (20, 0, 0)), some (xm_r (30, 0, 0)), some (xm_i (nI i)), some (xm_i (0 : Int32)), some (xm_i (1 : Int32)), u7]) rfl ?_
  refine pg_145_420 rfl ?_
  refine pg_145_421 (sk20 hs) (Nat.le_of_ble_eq_true rfl) (ct_69  hs) ?_
  refine go_top (y := (0 : Int32)) (by unfold sp_69; simp [xm_up]) ?_
  refine pg_145_424 rfl ?_
  refine pg_145_426 (fun _ => ?_) (fun hc => absurd (by decide) hc)
  refine pg_145_431 rfl ?_
  refine pg_145_433 (fun hc => absurd (by decide) hc) (fun _ => ?_)
  refine pg_145_436 rfl ?_
  refine pg_145_437 ?_
  refine pg_145_438 (sk30 hs) (i := 0) (rfl : (0 : Int32) = nI 0) (by omega) (by omega) ?_
  refine pg_145_439 rfl ?_
  refine pg_145_441 (fun hc => absurd hc (by decide)) (fun _ => ?_)
  refine pg_145_444 ?_
  refine pg_145_445 ?_
  refine pg_145_449 ?_
  refine pg_145_450 (fun _ => ?_) (fun hc => absurd g0 hc)
  refine pg_145_455 ?_
  refine pg_145_1274 (y := (nI (i + 5))) (lv' := [some (xm_r (40, 0, 0)), some (xm_r (0, 0, 0)), some (xm_r (20, 0, 0)), some (xm_r (30, 0, 0)), some (xm_i (nI (i + 5))), some (xm_i (0 : Int32)), some (xm_i (1 : Int32)), u7]) rfl (nI_add i 5) rfl ?_
  refine pg_145_1277 ?_
  exact K _ _ _
theorem lw_4_v1 {n : Nat} {E : xm_E} {c : Nat × Nat} {fi : FI} {fl : FL} {r : xm_I → Nat → Option xm_I} {L i : Nat} {xs : Nat → Int32} {p : Nat} {R : xm_O} (hs : sh n E c r) (hf : fz n fi) (hB : BZ fi) (hsc : E.1 (40, 0, 0) = (110, L)) (hL : L < 100000) (hi : i + 5 ≤ L) (hxs : ∀ j, j < L → fi (40, 0, 0) j = xs j) (hop : xs i &&& 31 = 4) (ho1 : xs (i + 1) = nI p) (hp : p < n) (g0 : (lg_cmp ((xm_up fl (30, 0, 0) 0 (if (bI ((sp_44 fi p).1)) = 0 then (0 : Int64) else (1 : Int64))) (30, 0, 0) 0) (0 : Int64)) = 0) (v415_g0 : ¬ (((sp_44 fi p).2) (21, 11, 0) p) = 0) (K : ∀ u5 u6 u7 : Option xm_V, xm_G E 8 true 145 43 [some (xm_r (40, 0, 0)), some (xm_r (0, 0, 0)), some (xm_r (20, 0, 0)), some (xm_r (30, 0, 0)), some (xm_i (nI (i + 5))), u5, u6, u7] [] (c, (xm_up ((sp_44 fi p).2) (20, 0, 0) 0 (0 : Int32)), (xm_up fl (30, 0, 0) 0 (if (bI ((sp_44 fi p).1)) = 0 then (0 : Int64) else (1 : Int64))), r) R) : ∀ u5 u6 u7 : Option xm_V, xm_G E 8 true 145 43 [some (xm_r (40, 0, 0)), some (xm_r (0, 0, 0)), some (xm_r (20, 0, 0)), some (xm_r (30, 0, 0)), some (xm_i (nI i)), u5, u6, u7] [] (c, fi, fl, r) R := by
  have hn := sh_n hs
  intro u5 u6 u7
  refine pg_145_43 rfl ?_
  refine pg_145_45 rfl ?_
  refine pg_145_46 (t := 110) (n := L) (Or.inl hsc) ?_
  refine pg_145_47 ?_
  refine pg_145_48 ?_
  refine pg_145_49 (fun hc => absurd hc (lw_go hi hL)) (fun _ => ?_)
  refine pg_145_52 rfl ?_
  refine pg_145_53 rfl ?_
  refine pg_145_55 (n := L) (Or.inr hsc) (i := i) rfl (by omega) hL ?_
  refine go_top (y := xs i) (((kp_re [703, 710, 711, 2000] fi) (40, 0, 0) _ rfl).trans (hxs _ (by omega))) ?_
  refine pg_145_56 ?_
  refine pg_145_58 ?_
  refine go_top (y := (4 : Int32)) hop ?_
  refine pg_145_59 (off := 336) (t := 395) (by decide) (by decide) ?_
  refine pg_145_395 rfl ?_
  refine pg_145_396 rfl ?_
  refine pg_145_397 rfl ?_
  refine pg_145_399 ?_
  refine pg_145_400 ?_
  refine go_top (y := nI (i + 1)) (nx_add rfl (rfl : (1 : Int32) = nI 1)) ?_
  refine pg_145_401 (n := L) (Or.inr hsc) (i := (i + 1)) rfl (by omega) hL ?_
  refine go_top (y := xs (i + 1)) (((kp_re [703, 710, 711, 2000] fi) (40, 0, 0) _ rfl).trans (hxs _ (by omega))) ?_
  refine go_top (y := nI p) ho1 ?_
  refine pg_145_402 rfl ?_
  refine pg_145_403 (Nat.le_of_ble_eq_true rfl) (ct_130v0 (p := p) hs (by omega)) ?_
  refine pg_145_406 (lv' := [some (xm_r (40, 0, 0)), some (xm_r (0, 0, 0)), some (xm_r (20, 0, 0)), some (xm_r (30, 0, 0)), some (xm_i (nI i)), some (xm_i (0 : Int32)), u6, u7]) rfl ?_
  refine pg_145_408 rfl ?_
  refine pg_145_409 rfl ?_
  refine pg_145_410 rfl ?_
  refine pg_145_412 ?_
  refine pg_145_413 ?_
  refine go_top (y := nI (i + 1)) (nx_add rfl (rfl : (1 : Int32) = nI 1)) ?_
  refine pg_145_414 (n := L) (Or.inr hsc) (i := (i + 1)) rfl (by omega) hL ?_
  refine go_top (y := xs (i + 1)) (((kp_tr (kp_re [703, 710, 711, 2000] fi) rfl (kp_tr (kp_re [703, 710, 711] fi) rfl (kp_tr (kp_re [703, 710, 711] fi) rfl (kp_sp_44 fi p)))) (40, 0, 0) _ rfl).trans (hxs _ (by omega))) ?_
  refine go_top (y := nI p) ho1 ?_
  refine pg_145_415 (sk20 hs) (Nat.le_of_ble_eq_true rfl) (ct_103v1 (p := p) hs (by omega) (fz_kp hf (kp_tr (kp_re [703, 710, 711, 2000] fi) rfl (kp_tr (kp_re [703, 710, 711] fi) rfl (kp_tr (kp_re [703, 710, 711] fi) rfl (kp_sp_44 fi p)))) rfl rfl rfl) v415_g0) ?_
  refine pg_145_418 (lv' := [some (xm_r (40, 0, 0)), some (xm_r (0, 0, 0)), some (xm_r (20, 0, 0)), some (xm_r (30, 0, 0)), some (xm_i (nI i)), some (xm_i (0 : Int32)), some (xm_i (0 : Int32)), u7]) rfl ?_
  refine pg_145_420 rfl ?_
  refine pg_145_421 (sk20 hs) (Nat.le_of_ble_eq_true rfl) (ct_69  hs) ?_
  refine go_top (y := (0 : Int32)) (by unfold sp_69; simp [xm_up]) ?_
  refine pg_145_424 rfl ?_
  refine pg_145_426 (fun _ => ?_) (fun hc => absurd (by decide) hc)
  refine pg_145_431 rfl ?_
  refine pg_145_433 (fun hc => absurd (by decide) hc) (fun _ => ?_)
  refine pg_145_436 rfl ?_
  refine pg_145_437 ?_
  refine pg_145_438 (sk30 hs) (i := 0) (rfl : (0 : Int32) = nI 0) (by omega) (by omega) ?_
  refine pg_145_439 rfl ?_
  refine pg_145_441 (fun _ => ?_) (fun hc => absurd (by decide) hc)
  refine pg_145_448 ?_
  refine pg_145_449 ?_
  refine pg_145_450 (fun _ => ?_) (fun hc => absurd g0 hc)
  refine pg_145_455 ?_
  refine pg_145_1274 (y := (nI (i + 5))) (lv' := [some (xm_r (40, 0, 0)), some (xm_r (0, 0, 0)), some (xm_r (20, 0, 0)), some (xm_r (30, 0, 0)), some (xm_i (nI (i + 5))), some (xm_i (0 : Int32)), some (xm_i (0 : Int32)), u7]) rfl (nI_add i 5) rfl ?_
  refine pg_145_1277 ?_
  exact K _ _ _
theorem lw_4_i {n : Nat} {E : xm_E} {c : Nat × Nat} {fi : FI} {fl : FL} {r : xm_I → Nat → Option xm_I} {L i : Nat} {xs : Nat → Int32} {R : xm_O} (hs : sh n E c r) (hf : fz n fi) (hB : BZ fi) (hsc : E.1 (40, 0, 0) = (110, L)) (hL : L < 100000) (hi : i + 5 ≤ L) (hxs : ∀ j, j < L → fi (40, 0, 0) j = xs j) (hop : xs i &&& 31 = 4) (hx : 200 ≤ (E.1 (E.2.2 c.1)).1) (v403_v4_g0 : (bI (sp_8 n (xs (i + 1)))) = 0) (v415_g0 : ¬ (bI (sp_99 n (xs (i + 1)))) = 0) (K : ∀ u5 u6 u7 : Option xm_V, xm_G E 8 true 145 43 [some (xm_r (40, 0, 0)), some (xm_r (0, 0, 0)), some (xm_r (20, 0, 0)), some (xm_r (30, 0, 0)), some (xm_i (nI (i + 5))), u5, u6, u7] [] ((c.1 + 1, c.2 + 6), (xm_up fi (20, 0, 0) 0 (1 : Int32)), fl, r) R) : ∀ u5 u6 u7 : Option xm_V, xm_G E 8 true 145 43 [some (xm_r (40, 0, 0)), some (xm_r (0, 0, 0)), some (xm_r (20, 0, 0)), some (xm_r (30, 0, 0)), some (xm_i (nI i)), u5, u6, u7] [] (c, fi, fl, r) R := by
  have hn := sh_n hs
  intro u5 u6 u7
  refine pg_145_43 rfl ?_
  refine pg_145_45 rfl ?_
  refine pg_145_46 (t := 110) (n := L) (Or.inl hsc) ?_
  refine pg_145_47 ?_
  refine pg_145_48 ?_
  refine pg_145_49 (fun hc => absurd hc (lw_go hi hL)) (fun _ => ?_)
  refine pg_145_52 rfl ?_
  refine pg_145_53 rfl ?_
  refine pg_145_55 (n := L) (Or.inr hsc) (i := i) rfl (by omega) hL ?_
  refine go_top (y := xs i) (((kp_re [2000] fi) (40, 0, 0) _ rfl).trans (hxs _ (by omega))) ?_
  refine pg_145_56 ?_
  refine pg_145_58 ?_
  refine go_top (y := (4 : Int32)) hop ?_
  refine pg_145_59 (off := 336) (t := 395) (by decide) (by decide) ?_
  refine pg_145_395 rfl ?_
  refine pg_145_396 rfl ?_
  refine pg_145_397 rfl ?_
  refine pg_145_399 ?_
  refine pg_145_400 ?_
  refine go_top (y := nI (i + 1)) (nx_add rfl (rfl : (1 : Int32) = nI 1)) ?_
  refine pg_145_401 (n := L) (Or.inr hsc) (i := (i + 1)) rfl (by omega) hL ?_
  refine go_top (y := xs (i + 1)) (((kp_re [2000] fi) (40, 0, 0) _ rfl).trans (hxs _ (by omega))) ?_
  refine pg_145_402 rfl ?_
  refine pg_145_403 (Nat.le_of_ble_eq_true rfl) (ct_130i0 (x := (xs (i + 1))) hs hx v403_v4_g0) ?_
  have hs := sh_up hs
  refine pg_145_406 (lv' := [some (xm_r (40, 0, 0)), some (xm_r (0, 0, 0)), some (xm_r (20, 0, 0)), some (xm_r (30, 0, 0)), some (xm_i (nI i)), some (xm_i (1 : Int32)), u6, u7]) rfl ?_
  refine pg_145_408 rfl ?_
  refine pg_145_409 rfl ?_
  refine pg_145_410 rfl ?_
  refine pg_145_412 ?_
  refine pg_145_413 ?_
  refine go_top (y := nI (i + 1)) (nx_add rfl (rfl : (1 : Int32) = nI 1)) ?_
  refine pg_145_414 (n := L) (Or.inr hsc) (i := (i + 1)) rfl (by omega) hL ?_
  refine go_top (y := xs (i + 1)) (((kp_re [2000] fi) (40, 0, 0) _ rfl).trans (hxs _ (by omega))) ?_
  refine pg_145_415 (sk20 hs) (Nat.le_of_ble_eq_true rfl) (ct_103i0 (x := (xs (i + 1))) hs (fz_kp hf (kp_re [2000] fi) rfl rfl rfl) v415_g0) ?_
  refine pg_145_418 (lv' := [some (xm_r (40, 0, 0)), some (xm_r (0, 0, 0)), some (xm_r (20, 0, 0)), some (xm_r (30, 0, 0)), some (xm_i (nI i)), some (xm_i (1 : Int32)), some (xm_i (0 : Int32)), u7]) rfl ?_
  refine pg_145_420 rfl ?_
  refine pg_145_421 (sk20 hs) (Nat.le_of_ble_eq_true rfl) (ct_69  hs) ?_
  refine go_top (y := (1 : Int32)) (by unfold sp_69; simp [xm_up]) ?_
  refine pg_145_424 rfl ?_
  refine pg_145_426 (fun _ => ?_) (fun hc => absurd (by decide) hc)
  refine pg_145_431 rfl ?_
  refine pg_145_433 (fun _ => ?_) (fun hc => absurd hc (by decide))
  refine pg_145_455 ?_
  refine pg_145_1274 (y := (nI (i + 5))) (lv' := [some (xm_r (40, 0, 0)), some (xm_r (0, 0, 0)), some (xm_r (20, 0, 0)), some (xm_r (30, 0, 0)), some (xm_i (nI (i + 5))), some (xm_i (1 : Int32)), some (xm_i (0 : Int32)), u7]) rfl (nI_add i 5) rfl ?_
  refine pg_145_1277 ?_
  exact K _ _ _
theorem lw_5_ok {n : Nat} {E : xm_E} {c : Nat × Nat} {fi : FI} {fl : FL} {r : xm_I → Nat → Option xm_I} {L i : Nat} {xs : Nat → Int32} {m : Nat} {R : xm_O} (hs : sh n E c r) (hf : fz n fi) (hB : BZ fi) (hsc : E.1 (40, 0, 0) = (110, L)) (hL : L < 100000) (hi : i + 5 ≤ L) (hxs : ∀ j, j < L → fi (40, 0, 0) j = xs j) (hop : xs i &&& 31 = 5) (ho1 : xs (i + 1) = nI m) (h1 : 1 ≤ m) (h4 : m ≤ 4) (g0 : (sp_69 ((sp_70 n ((sp_13 n fi fl m).2) (xm_up fl (30, 0, 0) 0 (((sp_13 n fi fl m).1).toInt64)) m).2.1)) = (0 : Int32)) (g1 : (lg_cmp (((sp_70 n ((sp_13 n fi fl m).2) (xm_up fl (30, 0, 0) 0 (((sp_13 n fi fl m).1).toInt64)) m).2.2) (30, 0, 0) 0) (((sp_70 n ((sp_13 n fi fl m).2) (xm_up fl (30, 0, 0) 0 (((sp_13 n fi fl m).1).toInt64)) m).1).toInt64)) = 0) (K : ∀ u5 u6 u7 : Option xm_V, xm_G E 8 true 145 43 [some (xm_r (40, 0, 0)), some (xm_r (0, 0, 0)), some (xm_r (20, 0, 0)), some (xm_r (30, 0, 0)), some (xm_i (nI (i + 5))), u5, u6, u7] [] (c, ((sp_70 n ((sp_13 n fi fl m).2) (xm_up fl (30, 0, 0) 0 (((sp_13 n fi fl m).1).toInt64)) m).2.1), ((sp_70 n ((sp_13 n fi fl m).2) (xm_up fl (30, 0, 0) 0 (((sp_13 n fi fl m).1).toInt64)) m).2.2), r) R) : ∀ u5 u6 u7 : Option xm_V, xm_G E 8 true 145 43 [some (xm_r (40, 0, 0)), some (xm_r (0, 0, 0)), some (xm_r (20, 0, 0)), some (xm_r (30, 0, 0)), some (xm_i (nI i)), u5, u6, u7] [] (c, fi, fl, r) R := by
  have hn := sh_n hs
  intro u5 u6 u7
  refine pg_145_43 rfl ?_
  refine pg_145_45 rfl ?_
  refine pg_145_46 (t := 110) (n := L) (Or.inl hsc) ?_
  refine pg_145_47 ?_
  refine pg_145_48 ?_
  refine pg_145_49 (fun hc => absurd hc (lw_go hi hL)) (fun _ => ?_)
  refine pg_145_52 rfl ?_
  refine pg_145_53 rfl ?_
  refine pg_145_55 (n := L) (Or.inr hsc) (i := i) rfl (by omega) hL ?_
  refine go_top (y := xs i) (((kp_re [4, 5, 6, 203, 204, 205, 206, 207, 208, 209, 210, 500, 703, 710, 711, 712, 800, 900, 1000, 1300, 2000, 2003, 2021, 2022, 2023, 2025, 2036, 2039, 2111, 2112, 2113, 2114, 2115, 2116, 2117, 2118, 2119, 2120, 2124, 2127, 2128, 2129, 2130, 2133, 2134, 2135, 2137, 2138] fi) (40, 0, 0) _ rfl).trans (hxs _ (by omega))) ?_
  refine pg_145_56 ?_
  refine pg_145_58 ?_
  refine go_top (y := (5 : Int32)) hop ?_
  refine pg_145_59 (off := 399) (t := 458) (by decide) (by decide) ?_
  refine pg_145_458 rfl ?_
  refine pg_145_459 rfl ?_
  refine pg_145_460 rfl ?_
  refine pg_145_462 ?_
  refine pg_145_463 ?_
  refine go_top (y := nI (i + 1)) (nx_add rfl (rfl : (1 : Int32) = nI 1)) ?_
  refine pg_145_464 (n := L) (Or.inr hsc) (i := (i + 1)) rfl (by omega) hL ?_
  refine go_top (y := xs (i + 1)) (((kp_re [4, 5, 6, 203, 204, 205, 206, 207, 208, 209, 210, 500, 703, 710, 711, 712, 800, 900, 1000, 1300, 2000, 2003, 2021, 2022, 2023, 2025, 2036, 2039, 2111, 2112, 2113, 2114, 2115, 2116, 2117, 2118, 2119, 2120, 2124, 2127, 2128, 2129, 2130, 2133, 2134, 2135, 2137, 2138] fi) (40, 0, 0) _ rfl).trans (hxs _ (by omega))) ?_
  refine go_top (y := nI m) ho1 ?_
  refine pg_145_465 rfl ?_
  refine pg_145_466 (Nat.le_of_ble_eq_true rfl) (ct_131v (m := m) hs (by omega) (by omega) (fz_kp hf (kp_re [4, 5, 6, 203, 204, 205, 206, 207, 208, 209, 210, 500, 703, 710, 711, 712, 800, 900, 1000, 1300, 2000, 2003, 2021, 2022, 2023, 2025, 2036, 2039, 2111, 2112, 2113, 2114, 2115, 2116, 2117, 2118, 2119, 2120, 2124, 2127, 2128, 2129, 2130, 2133, 2134, 2135, 2137, 2138] fi) rfl rfl rfl)) ?_
  refine pg_145_469 (lv' := [some (xm_r (40, 0, 0)), some (xm_r (0, 0, 0)), some (xm_r (20, 0, 0)), some (xm_r (30, 0, 0)), some (xm_i (nI i)), some (xm_i (0 : Int32)), u6, u7]) rfl ?_
  refine pg_145_471 rfl ?_
  refine pg_145_472 rfl ?_
  refine pg_145_473 rfl ?_
  refine pg_145_475 ?_
  refine pg_145_476 ?_
  refine go_top (y := nI (i + 1)) (nx_add rfl (rfl : (1 : Int32) = nI 1)) ?_
  refine pg_145_477 (n := L) (Or.inr hsc) (i := (i + 1)) rfl (by omega) hL ?_
  refine go_top (y := xs (i + 1)) (((kp_tr (kp_re [4, 5, 6, 203, 204, 205, 206, 207, 208, 209, 210, 500, 703, 710, 711, 712, 800, 900, 1000, 1300, 2000, 2003, 2021, 2022, 2023, 2025, 2036, 2039, 2111, 2112, 2113, 2114, 2115, 2116, 2117, 2118, 2119, 2120, 2124, 2127, 2128, 2129, 2130, 2133, 2134, 2135, 2137, 2138] fi) rfl (kp_tr (kp_re [4, 5, 6, 203, 204, 205, 206, 207, 208, 209, 210, 500, 703, 710, 711, 712, 800, 900, 1000, 1300] fi) rfl (kp_sp_13 n fi fl m))) (40, 0, 0) _ rfl).trans (hxs _ (by omega))) ?_
  refine go_top (y := nI m) ho1 ?_
  refine pg_145_478 (sk20 hs) (Nat.le_of_ble_eq_true rfl) (ct_70 (m := m) hs (by omega) (by omega) (fz_kp hf (kp_tr (kp_re [4, 5, 6, 203, 204, 205, 206, 207, 208, 209, 210, 500, 703, 710, 711, 712, 800, 900, 1000, 1300, 2000, 2003, 2021, 2022, 2023, 2025, 2036, 2039, 2111, 2112, 2113, 2114, 2115, 2116, 2117, 2118, 2119, 2120, 2124, 2127, 2128, 2129, 2130, 2133, 2134, 2135, 2137, 2138] fi) rfl (kp_tr (kp_re [4, 5, 6, 203, 204, 205, 206, 207, 208, 209, 210, 500, 703, 710, 711, 712, 800, 900, 1000, 1300] fi) rfl (kp_sp_13 n fi fl m))) rfl rfl rfl) (BZ_kp hB (kp_tr (kp_re [4, 5, 6, 203, 204, 205, 206, 207, 208, 209, 210, 500, 703, 710, 711, 712, 800, 900, 1000, 1300, 2000, 2003, 2021, 2022, 2023, 2025, 2036, 2039, 2111, 2112, 2113, 2115, 2116, 2117, 2118, 2119, 2120, 2124, 2128, 2130, 2133, 2135, 2137, 2138] fi) rfl (kp_tr (kp_re [4, 5, 6, 203, 204, 205, 206, 207, 208, 209, 210, 500, 703, 710, 711, 712, 800, 900, 1000, 1300] fi) rfl (kp_sp_13 n fi fl m))) rfl rfl rfl rfl)) ?_
  refine pg_145_481 (lv' := [some (xm_r (40, 0, 0)), some (xm_r (0, 0, 0)), some (xm_r (20, 0, 0)), some (xm_r (30, 0, 0)), some (xm_i (nI i)), some (xm_i (0 : Int32)), some (xm_i ((sp_70 n ((sp_13 n fi fl m).2) (xm_up fl (30, 0, 0) 0 (((sp_13 n fi fl m).1).toInt64)) m).1)), u7]) rfl ?_
  refine pg_145_483 rfl ?_
  refine pg_145_484 (sk20 hs) (Nat.le_of_ble_eq_true rfl) (ct_69  hs) ?_
  refine pg_145_487 rfl ?_
  refine pg_145_489 (fun _ => ?_) (fun hc => absurd g0 hc)
  refine pg_145_494 rfl ?_
  refine pg_145_496 (fun hc => absurd (by decide) hc) (fun _ => ?_)
  refine pg_145_499 rfl ?_
  refine pg_145_500 ?_
  refine pg_145_501 (sk30 hs) (i := 0) (rfl : (0 : Int32) = nI 0) (by omega) (by omega) ?_
  refine pg_145_502 rfl ?_
  refine pg_145_504 ?_
  refine pg_145_505 ?_
  refine pg_145_506 (fun _ => ?_) (fun hc => absurd g1 hc)
  refine pg_145_511 ?_
  refine pg_145_1274 (y := (nI (i + 5))) (lv' := [some (xm_r (40, 0, 0)), some (xm_r (0, 0, 0)), some (xm_r (20, 0, 0)), some (xm_r (30, 0, 0)), some (xm_i (nI (i + 5))), some (xm_i (0 : Int32)), some (xm_i ((sp_70 n ((sp_13 n fi fl m).2) (xm_up fl (30, 0, 0) 0 (((sp_13 n fi fl m).1).toInt64)) m).1)), u7]) rfl (nI_add i 5) rfl ?_
  refine pg_145_1277 ?_
  exact K _ _ _
theorem lw_5_b0 {n : Nat} {E : xm_E} {c : Nat × Nat} {fi : FI} {fl : FL} {r : xm_I → Nat → Option xm_I} {L i : Nat} {xs : Nat → Int32} {R : xm_O} (hs : sh n E c r) (hf : fz n fi) (hB : BZ fi) (hsc : E.1 (40, 0, 0) = (110, L)) (hL : L < 100000) (hi : i + 5 ≤ L) (hxs : ∀ j, j < L → fi (40, 0, 0) j = xs j) (hop : xs i &&& 31 = 5) (hx : 200 ≤ (E.1 (E.2.2 c.1)).1) (v466_v4_g0 : (xs (i + 1)) < (1 : Int32)) (v478_g0 : (xs (i + 1)) < (1 : Int32)) (v478_g1 : (xs (i + 1)) ≤ (0 : Int32)) (K : ∀ u5 u6 u7 : Option xm_V, xm_G E 8 true 145 43 [some (xm_r (40, 0, 0)), some (xm_r (0, 0, 0)), some (xm_r (20, 0, 0)), some (xm_r (30, 0, 0)), some (xm_i (nI (i + 5))), u5, u6, u7] [] ((c.1 + 1, c.2 + 6), (xm_up fi (20, 0, 0) 0 (1 : Int32)), fl, r) R) : ∀ u5 u6 u7 : Option xm_V, xm_G E 8 true 145 43 [some (xm_r (40, 0, 0)), some (xm_r (0, 0, 0)), some (xm_r (20, 0, 0)), some (xm_r (30, 0, 0)), some (xm_i (nI i)), u5, u6, u7] [] (c, fi, fl, r) R := by
  have hn := sh_n hs
  intro u5 u6 u7
  refine pg_145_43 rfl ?_
  refine pg_145_45 rfl ?_
  refine pg_145_46 (t := 110) (n := L) (Or.inl hsc) ?_
  refine pg_145_47 ?_
  refine pg_145_48 ?_
  refine pg_145_49 (fun hc => absurd hc (lw_go hi hL)) (fun _ => ?_)
  refine pg_145_52 rfl ?_
  refine pg_145_53 rfl ?_
  refine pg_145_55 (n := L) (Or.inr hsc) (i := i) rfl (by omega) hL ?_
  refine go_top (y := xs i) (((kp_re [2000] fi) (40, 0, 0) _ rfl).trans (hxs _ (by omega))) ?_
  refine pg_145_56 ?_
  refine pg_145_58 ?_
  refine go_top (y := (5 : Int32)) hop ?_
  refine pg_145_59 (off := 399) (t := 458) (by decide) (by decide) ?_
  refine pg_145_458 rfl ?_
  refine pg_145_459 rfl ?_
  refine pg_145_460 rfl ?_
  refine pg_145_462 ?_
  refine pg_145_463 ?_
  refine go_top (y := nI (i + 1)) (nx_add rfl (rfl : (1 : Int32) = nI 1)) ?_
  refine pg_145_464 (n := L) (Or.inr hsc) (i := (i + 1)) rfl (by omega) hL ?_
  refine go_top (y := xs (i + 1)) (((kp_re [2000] fi) (40, 0, 0) _ rfl).trans (hxs _ (by omega))) ?_
  refine pg_145_465 rfl ?_
  refine pg_145_466 (Nat.le_of_ble_eq_true rfl) (ct_131i0 (x := (xs (i + 1))) hs hx v466_v4_g0) ?_
  have hs := sh_up hs
  refine pg_145_469 (lv' := [some (xm_r (40, 0, 0)), some (xm_r (0, 0, 0)), some (xm_r (20, 0, 0)), some (xm_r (30, 0, 0)), some (xm_i (nI i)), some (xm_i (1 : Int32)), u6, u7]) rfl ?_
  refine pg_145_471 rfl ?_
  refine pg_145_472 rfl ?_
  refine pg_145_473 rfl ?_
  refine pg_145_475 ?_
  refine pg_145_476 ?_
  refine go_top (y := nI (i + 1)) (nx_add rfl (rfl : (1 : Int32) = nI 1)) ?_
  refine pg_145_477 (n := L) (Or.inr hsc) (i := (i + 1)) rfl (by omega) hL ?_
  refine go_top (y := xs (i + 1)) (((kp_re [2000] fi) (40, 0, 0) _ rfl).trans (hxs _ (by omega))) ?_
  refine pg_145_478 (sk20 hs) (Nat.le_of_ble_eq_true rfl) (ct_70i0 (x := (xs (i + 1))) hs (fz_kp hf (kp_re [2000] fi) rfl rfl rfl) v478_g0 v478_g1) ?_
  refine pg_145_481 (lv' := [some (xm_r (40, 0, 0)), some (xm_r (0, 0, 0)), some (xm_r (20, 0, 0)), some (xm_r (30, 0, 0)), some (xm_i (nI i)), some (xm_i (1 : Int32)), some (xm_i (0 : Int32)), u7]) rfl ?_
  refine pg_145_483 rfl ?_
  refine pg_145_484 (sk20 hs) (Nat.le_of_ble_eq_true rfl) (ct_69  hs) ?_
  refine go_top (y := (1 : Int32)) (by unfold sp_69; simp [xm_up]) ?_
  refine pg_145_487 rfl ?_
  refine pg_145_489 (fun _ => ?_) (fun hc => absurd (by decide) hc)
  refine pg_145_494 rfl ?_
  refine pg_145_496 (fun _ => ?_) (fun hc => absurd hc (by decide))
  refine pg_145_511 ?_
  refine pg_145_1274 (y := (nI (i + 5))) (lv' := [some (xm_r (40, 0, 0)), some (xm_r (0, 0, 0)), some (xm_r (20, 0, 0)), some (xm_r (30, 0, 0)), some (xm_i (nI (i + 5))), some (xm_i (1 : Int32)), some (xm_i (0 : Int32)), u7]) rfl (nI_add i 5) rfl ?_
  refine pg_145_1277 ?_
  exact K _ _ _
theorem lw_5_b1 {n : Nat} {E : xm_E} {c : Nat × Nat} {fi : FI} {fl : FL} {r : xm_I → Nat → Option xm_I} {L i : Nat} {xs : Nat → Int32} {R : xm_O} (hs : sh n E c r) (hf : fz n fi) (hB : BZ fi) (hsc : E.1 (40, 0, 0) = (110, L)) (hL : L < 100000) (hi : i + 5 ≤ L) (hxs : ∀ j, j < L → fi (40, 0, 0) j = xs j) (hop : xs i &&& 31 = 5) (hx : 200 ≤ (E.1 (E.2.2 c.1)).1) (v466_v4_g0 : ¬ (xs (i + 1)) < (1 : Int32)) (v466_v4_g1 : ¬ (xs (i + 1)) ≤ (4 : Int32)) (v478_g0 : ¬ (xs (i + 1)) < (1 : Int32)) (v478_g1 : ¬ (xs (i + 1)) ≤ (4 : Int32)) (v478_g2 : ¬ (xs (i + 1)) ≤ (0 : Int32)) (K : ∀ u5 u6 u7 : Option xm_V, xm_G E 8 true 145 43 [some (xm_r (40, 0, 0)), some (xm_r (0, 0, 0)), some (xm_r (20, 0, 0)), some (xm_r (30, 0, 0)), some (xm_i (nI (i + 5))), u5, u6, u7] [] ((c.1 + 1, c.2 + 6), (xm_up fi (20, 0, 0) 0 (1 : Int32)), fl, r) R) : ∀ u5 u6 u7 : Option xm_V, xm_G E 8 true 145 43 [some (xm_r (40, 0, 0)), some (xm_r (0, 0, 0)), some (xm_r (20, 0, 0)), some (xm_r (30, 0, 0)), some (xm_i (nI i)), u5, u6, u7] [] (c, fi, fl, r) R := by
  have hn := sh_n hs
  intro u5 u6 u7
  refine pg_145_43 rfl ?_
  refine pg_145_45 rfl ?_
  refine pg_145_46 (t := 110) (n := L) (Or.inl hsc) ?_
  refine pg_145_47 ?_
  refine pg_145_48 ?_
  refine pg_145_49 (fun hc => absurd hc (lw_go hi hL)) (fun _ => ?_)
  refine pg_145_52 rfl ?_
  refine pg_145_53 rfl ?_
  refine pg_145_55 (n := L) (Or.inr hsc) (i := i) rfl (by omega) hL ?_
  refine go_top (y := xs i) (((kp_re [2000] fi) (40, 0, 0) _ rfl).trans (hxs _ (by omega))) ?_
  refine pg_145_56 ?_
  refine pg_145_58 ?_
  refine go_top (y := (5 : Int32)) hop ?_
  refine pg_145_59 (off := 399) (t := 458) (by decide) (by decide) ?_
  refine pg_145_458 rfl ?_
  refine pg_145_459 rfl ?_
  refine pg_145_460 rfl ?_
  refine pg_145_462 ?_
  refine pg_145_463 ?_
  refine go_top (y := nI (i + 1)) (nx_add rfl (rfl : (1 : Int32) = nI 1)) ?_
  refine pg_145_464 (n := L) (Or.inr hsc) (i := (i + 1)) rfl (by omega) hL ?_
  refine go_top (y := xs (i + 1)) (((kp_re [2000] fi) (40, 0, 0) _ rfl).trans (hxs _ (by omega))) ?_
  refine pg_145_465 rfl ?_
  refine pg_145_466 (Nat.le_of_ble_eq_true rfl) (ct_131i2 (x := (xs (i + 1))) hs hx v466_v4_g0 v466_v4_g1) ?_
  have hs := sh_up hs
  refine pg_145_469 (lv' := [some (xm_r (40, 0, 0)), some (xm_r (0, 0, 0)), some (xm_r (20, 0, 0)), some (xm_r (30, 0, 0)), some (xm_i (nI i)), some (xm_i (1 : Int32)), u6, u7]) rfl ?_
  refine pg_145_471 rfl ?_
  refine pg_145_472 rfl ?_
  refine pg_145_473 rfl ?_
  refine pg_145_475 ?_
  refine pg_145_476 ?_
  refine go_top (y := nI (i + 1)) (nx_add rfl (rfl : (1 : Int32) = nI 1)) ?_
  refine pg_145_477 (n := L) (Or.inr hsc) (i := (i + 1)) rfl (by omega) hL ?_
  refine go_top (y := xs (i + 1)) (((kp_re [2000] fi) (40, 0, 0) _ rfl).trans (hxs _ (by omega))) ?_
  refine pg_145_478 (sk20 hs) (Nat.le_of_ble_eq_true rfl) (ct_70i4 (x := (xs (i + 1))) hs (fz_kp hf (kp_re [2000] fi) rfl rfl rfl) v478_g0 v478_g1 v478_g2) ?_
  refine pg_145_481 (lv' := [some (xm_r (40, 0, 0)), some (xm_r (0, 0, 0)), some (xm_r (20, 0, 0)), some (xm_r (30, 0, 0)), some (xm_i (nI i)), some (xm_i (1 : Int32)), some (xm_i (0 : Int32)), u7]) rfl ?_
  refine pg_145_483 rfl ?_
  refine pg_145_484 (sk20 hs) (Nat.le_of_ble_eq_true rfl) (ct_69  hs) ?_
  refine go_top (y := (1 : Int32)) (by unfold sp_69; simp [xm_up]) ?_
  refine pg_145_487 rfl ?_
  refine pg_145_489 (fun _ => ?_) (fun hc => absurd (by decide) hc)
  refine pg_145_494 rfl ?_
  refine pg_145_496 (fun _ => ?_) (fun hc => absurd hc (by decide))
  refine pg_145_511 ?_
  refine pg_145_1274 (y := (nI (i + 5))) (lv' := [some (xm_r (40, 0, 0)), some (xm_r (0, 0, 0)), some (xm_r (20, 0, 0)), some (xm_r (30, 0, 0)), some (xm_i (nI (i + 5))), some (xm_i (1 : Int32)), some (xm_i (0 : Int32)), u7]) rfl (nI_add i 5) rfl ?_
  refine pg_145_1277 ?_
  exact K _ _ _
theorem lw_6_a {n : Nat} {E : xm_E} {c : Nat × Nat} {fi : FI} {fl : FL} {r : xm_I → Nat → Option xm_I} {L i : Nat} {xs : Nat → Int32} {o : Nat} {p : Nat} {R : xm_O} (hs : sh n E c r) (hf : fz n fi) (hB : BZ fi) (hsc : E.1 (40, 0, 0) = (110, L)) (hL : L < 100000) (hi : i + 5 ≤ L) (hxs : ∀ j, j < L → fi (40, 0, 0) j = xs j) (hop : xs i &&& 31 = 6) (ho1 : xs (i + 1) = nI p) (ho2 : xs (i + 2) = nI o) (hp : p < n) (ho : o < n) (hx : 200 ≤ (E.1 (E.2.2 c.1)).1) (v528_v5_g0 : (fi (7, p, 0) 10) = 0) (v546_g0 : (fi (21, 18, 0) p) = 0) (K : ∀ u5 u6 u7 : Option xm_V, xm_G E 8 true 145 43 [some (xm_r (40, 0, 0)), some (xm_r (0, 0, 0)), some (xm_r (20, 0, 0)), some (xm_r (30, 0, 0)), some (xm_i (nI (i + 5))), u5, u6, u7] [] ((c.1 + 1, c.2 + 6), (xm_up fi (20, 0, 0) 0 (2 : Int32)), fl, r) R) : ∀ u5 u6 u7 : Option xm_V, xm_G E 8 true 145 43 [some (xm_r (40, 0, 0)), some (xm_r (0, 0, 0)), some (xm_r (20, 0, 0)), some (xm_r (30, 0, 0)), some (xm_i (nI i)), u5, u6, u7] [] (c, fi, fl, r) R := by
  have hn := sh_n hs
  intro u5 u6 u7
  refine pg_145_43 rfl ?_
  refine pg_145_45 rfl ?_
  refine pg_145_46 (t := 110) (n := L) (Or.inl hsc) ?_
  refine pg_145_47 ?_
  refine pg_145_48 ?_
  refine pg_145_49 (fun hc => absurd hc (lw_go hi hL)) (fun _ => ?_)
  refine pg_145_52 rfl ?_
  refine pg_145_53 rfl ?_
  refine pg_145_55 (n := L) (Or.inr hsc) (i := i) rfl (by omega) hL ?_
  refine go_top (y := xs i) (((kp_re [2000] fi) (40, 0, 0) _ rfl).trans (hxs _ (by omega))) ?_
  refine pg_145_56 ?_
  refine pg_145_58 ?_
  refine go_top (y := (6 : Int32)) hop ?_
  refine pg_145_59 (off := 455) (t := 514) (by decide) (by decide) ?_
  refine pg_145_514 rfl ?_
  refine pg_145_515 rfl ?_
  refine pg_145_516 rfl ?_
  refine pg_145_518 ?_
  refine pg_145_519 ?_
  refine go_top (y := nI (i + 1)) (nx_add rfl (rfl : (1 : Int32) = nI 1)) ?_
  refine pg_145_520 (n := L) (Or.inr hsc) (i := (i + 1)) rfl (by omega) hL ?_
  refine go_top (y := xs (i + 1)) (((kp_re [2000] fi) (40, 0, 0) _ rfl).trans (hxs _ (by omega))) ?_
  refine go_top (y := nI p) ho1 ?_
  refine pg_145_521 rfl ?_
  refine pg_145_522 rfl ?_
  refine pg_145_524 ?_
  refine pg_145_525 ?_
  refine go_top (y := nI (i + 2)) (nx_add rfl (rfl : (2 : Int32) = nI 2)) ?_
  refine pg_145_526 (n := L) (Or.inr hsc) (i := (i + 2)) rfl (by omega) hL ?_
  refine go_top (y := xs (i + 2)) (((kp_re [2000] fi) (40, 0, 0) _ rfl).trans (hxs _ (by omega))) ?_
  refine go_top (y := nI o) ho2 ?_
  refine pg_145_527 rfl ?_
  refine pg_145_528 (Nat.le_of_ble_eq_true rfl) (ct_132v0 (p := p) (o := o) hs (by omega) (by omega) hx v528_v5_g0) ?_
  have hs := sh_up hs
  refine pg_145_531 (lv' := [some (xm_r (40, 0, 0)), some (xm_r (0, 0, 0)), some (xm_r (20, 0, 0)), some (xm_r (30, 0, 0)), some (xm_i (nI i)), some (xm_i (2 : Int32)), u6, u7]) rfl ?_
  refine pg_145_533 rfl ?_
  refine pg_145_534 rfl ?_
  refine pg_145_535 rfl ?_
  refine pg_145_537 ?_
  refine pg_145_538 ?_
  refine go_top (y := nI (i + 1)) (nx_add rfl (rfl : (1 : Int32) = nI 1)) ?_
  refine pg_145_539 (n := L) (Or.inr hsc) (i := (i + 1)) rfl (by omega) hL ?_
  refine go_top (y := xs (i + 1)) (((kp_re [2000] fi) (40, 0, 0) _ rfl).trans (hxs _ (by omega))) ?_
  refine go_top (y := nI p) ho1 ?_
  refine pg_145_540 rfl ?_
  refine pg_145_541 rfl ?_
  refine pg_145_543 ?_
  refine pg_145_544 ?_
  refine go_top (y := nI (i + 2)) (nx_add rfl (rfl : (2 : Int32) = nI 2)) ?_
  refine pg_145_545 (n := L) (Or.inr hsc) (i := (i + 2)) rfl (by omega) hL ?_
  refine go_top (y := xs (i + 2)) (((kp_re [2000] fi) (40, 0, 0) _ rfl).trans (hxs _ (by omega))) ?_
  refine go_top (y := nI o) ho2 ?_
  refine pg_145_546 (sk20 hs) (Nat.le_of_ble_eq_true rfl) (ct_104v0 (p := p) (o := o) hs (by omega) (by omega) (fz_kp hf (kp_re [2000] fi) rfl rfl rfl) v546_g0) ?_
  refine pg_145_549 (lv' := [some (xm_r (40, 0, 0)), some (xm_r (0, 0, 0)), some (xm_r (20, 0, 0)), some (xm_r (30, 0, 0)), some (xm_i (nI i)), some (xm_i (2 : Int32)), some (xm_i (0 : Int32)), u7]) rfl ?_
  refine pg_145_551 rfl ?_
  refine pg_145_552 (sk20 hs) (Nat.le_of_ble_eq_true rfl) (ct_69  hs) ?_
  refine go_top (y := (2 : Int32)) (by unfold sp_69; simp [xm_up]) ?_
  refine pg_145_555 rfl ?_
  refine pg_145_557 (fun _ => ?_) (fun hc => absurd (by decide) hc)
  refine pg_145_562 rfl ?_
  refine pg_145_564 (fun _ => ?_) (fun hc => absurd hc (by decide))
  refine pg_145_579 ?_
  refine pg_145_1274 (y := (nI (i + 5))) (lv' := [some (xm_r (40, 0, 0)), some (xm_r (0, 0, 0)), some (xm_r (20, 0, 0)), some (xm_r (30, 0, 0)), some (xm_i (nI (i + 5))), some (xm_i (2 : Int32)), some (xm_i (0 : Int32)), u7]) rfl (nI_add i 5) rfl ?_
  refine pg_145_1277 ?_
  exact K _ _ _
theorem lw_6_b {n : Nat} {E : xm_E} {c : Nat × Nat} {fi : FI} {fl : FL} {r : xm_I → Nat → Option xm_I} {L i : Nat} {xs : Nat → Int32} {o : Nat} {p : Nat} {R : xm_O} (hs : sh n E c r) (hf : fz n fi) (hB : BZ fi) (hsc : E.1 (40, 0, 0) = (110, L)) (hL : L < 100000) (hi : i + 5 ≤ L) (hxs : ∀ j, j < L → fi (40, 0, 0) j = xs j) (hop : xs i &&& 31 = 6) (ho1 : xs (i + 1) = nI p) (ho2 : xs (i + 2) = nI o) (hp : p < n) (ho : o < n) (hx : 200 ≤ (E.1 (E.2.2 c.1)).1) (v528_v5_g0 : ¬ (fi (7, p, 0) 10) = 0) (v528_v5_g1 : (bI (sp_64 fi p 1 o)) = 0) (v546_g0 : ¬ (fi (21, 18, 0) p) = 0) (v546_g1 : (fi (21, 16, 0) ((6 * p) + o)) = 0) (K : ∀ u5 u6 u7 : Option xm_V, xm_G E 8 true 145 43 [some (xm_r (40, 0, 0)), some (xm_r (0, 0, 0)), some (xm_r (20, 0, 0)), some (xm_r (30, 0, 0)), some (xm_i (nI (i + 5))), u5, u6, u7] [] ((c.1 + 1, c.2 + 6), (xm_up fi (20, 0, 0) 0 (3 : Int32)), fl, r) R) : ∀ u5 u6 u7 : Option xm_V, xm_G E 8 true 145 43 [some (xm_r (40, 0, 0)), some (xm_r (0, 0, 0)), some (xm_r (20, 0, 0)), some (xm_r (30, 0, 0)), some (xm_i (nI i)), u5, u6, u7] [] (c, fi, fl, r) R := by
  have hn := sh_n hs
  intro u5 u6 u7
  refine pg_145_43 rfl ?_
  refine pg_145_45 rfl ?_
  refine pg_145_46 (t := 110) (n := L) (Or.inl hsc) ?_
  refine pg_145_47 ?_
  refine pg_145_48 ?_
  refine pg_145_49 (fun hc => absurd hc (lw_go hi hL)) (fun _ => ?_)
  refine pg_145_52 rfl ?_
  refine pg_145_53 rfl ?_
  refine pg_145_55 (n := L) (Or.inr hsc) (i := i) rfl (by omega) hL ?_
  refine go_top (y := xs i) (((kp_re [2000] fi) (40, 0, 0) _ rfl).trans (hxs _ (by omega))) ?_
  refine pg_145_56 ?_
  refine pg_145_58 ?_
  refine go_top (y := (6 : Int32)) hop ?_
  refine pg_145_59 (off := 455) (t := 514) (by decide) (by decide) ?_
  refine pg_145_514 rfl ?_
  refine pg_145_515 rfl ?_
  refine pg_145_516 rfl ?_
  refine pg_145_518 ?_
  refine pg_145_519 ?_
  refine go_top (y := nI (i + 1)) (nx_add rfl (rfl : (1 : Int32) = nI 1)) ?_
  refine pg_145_520 (n := L) (Or.inr hsc) (i := (i + 1)) rfl (by omega) hL ?_
  refine go_top (y := xs (i + 1)) (((kp_re [2000] fi) (40, 0, 0) _ rfl).trans (hxs _ (by omega))) ?_
  refine go_top (y := nI p) ho1 ?_
  refine pg_145_521 rfl ?_
  refine pg_145_522 rfl ?_
  refine pg_145_524 ?_
  refine pg_145_525 ?_
  refine go_top (y := nI (i + 2)) (nx_add rfl (rfl : (2 : Int32) = nI 2)) ?_
  refine pg_145_526 (n := L) (Or.inr hsc) (i := (i + 2)) rfl (by omega) hL ?_
  refine go_top (y := xs (i + 2)) (((kp_re [2000] fi) (40, 0, 0) _ rfl).trans (hxs _ (by omega))) ?_
  refine go_top (y := nI o) ho2 ?_
  refine pg_145_527 rfl ?_
  refine pg_145_528 (Nat.le_of_ble_eq_true rfl) (ct_132v1 (p := p) (o := o) hs (by omega) (by omega) hx v528_v5_g0 v528_v5_g1) ?_
  have hs := sh_up hs
  refine pg_145_531 (lv' := [some (xm_r (40, 0, 0)), some (xm_r (0, 0, 0)), some (xm_r (20, 0, 0)), some (xm_r (30, 0, 0)), some (xm_i (nI i)), some (xm_i (3 : Int32)), u6, u7]) rfl ?_
  refine pg_145_533 rfl ?_
  refine pg_145_534 rfl ?_
  refine pg_145_535 rfl ?_
  refine pg_145_537 ?_
  refine pg_145_538 ?_
  refine go_top (y := nI (i + 1)) (nx_add rfl (rfl : (1 : Int32) = nI 1)) ?_
  refine pg_145_539 (n := L) (Or.inr hsc) (i := (i + 1)) rfl (by omega) hL ?_
  refine go_top (y := xs (i + 1)) (((kp_re [2000] fi) (40, 0, 0) _ rfl).trans (hxs _ (by omega))) ?_
  refine go_top (y := nI p) ho1 ?_
  refine pg_145_540 rfl ?_
  refine pg_145_541 rfl ?_
  refine pg_145_543 ?_
  refine pg_145_544 ?_
  refine go_top (y := nI (i + 2)) (nx_add rfl (rfl : (2 : Int32) = nI 2)) ?_
  refine pg_145_545 (n := L) (Or.inr hsc) (i := (i + 2)) rfl (by omega) hL ?_
  refine go_top (y := xs (i + 2)) (((kp_re [2000] fi) (40, 0, 0) _ rfl).trans (hxs _ (by omega))) ?_
  refine go_top (y := nI o) ho2 ?_
  refine pg_145_546 (sk20 hs) (Nat.le_of_ble_eq_true rfl) (ct_104v1 (p := p) (o := o) hs (by omega) (by omega) (fz_kp hf (kp_re [2000] fi) rfl rfl rfl) v546_g0 v546_g1) ?_
  refine pg_145_549 (lv' := [some (xm_r (40, 0, 0)), some (xm_r (0, 0, 0)), some (xm_r (20, 0, 0)), some (xm_r (30, 0, 0)), some (xm_i (nI i)), some (xm_i (3 : Int32)), some (xm_i (0 : Int32)), u7]) rfl ?_
  refine pg_145_551 rfl ?_
  refine pg_145_552 (sk20 hs) (Nat.le_of_ble_eq_true rfl) (ct_69  hs) ?_
  refine go_top (y := (3 : Int32)) (by unfold sp_69; simp [xm_up]) ?_
  refine pg_145_555 rfl ?_
  refine pg_145_557 (fun _ => ?_) (fun hc => absurd (by decide) hc)
  refine pg_145_562 rfl ?_
  refine pg_145_564 (fun _ => ?_) (fun hc => absurd hc (by decide))
  refine pg_145_579 ?_
  refine pg_145_1274 (y := (nI (i + 5))) (lv' := [some (xm_r (40, 0, 0)), some (xm_r (0, 0, 0)), some (xm_r (20, 0, 0)), some (xm_r (30, 0, 0)), some (xm_i (nI (i + 5))), some (xm_i (3 : Int32)), some (xm_i (0 : Int32)), u7]) rfl (nI_add i 5) rfl ?_
  refine pg_145_1277 ?_
  exact K _ _ _
theorem lw_6_c {n : Nat} {E : xm_E} {c : Nat × Nat} {fi : FI} {fl : FL} {r : xm_I → Nat → Option xm_I} {L i : Nat} {xs : Nat → Int32} {o : Nat} {p : Nat} {R : xm_O} (hs : sh n E c r) (hf : fz n fi) (hB : BZ fi) (hsc : E.1 (40, 0, 0) = (110, L)) (hL : L < 100000) (hi : i + 5 ≤ L) (hxs : ∀ j, j < L → fi (40, 0, 0) j = xs j) (hop : xs i &&& 31 = 6) (ho1 : xs (i + 1) = nI p) (ho2 : xs (i + 2) = nI o) (hp : p < n) (ho : o < n) (g0 : (lg_cmp ((xm_up fl (30, 0, 0) 0 ((sp_65 fi p 1 o).toInt64)) (30, 0, 0) 0) ((fi (21, 17, 0) ((6 * p) + o)).toInt64)) = 0) (v528_v5_g0 : ¬ (fi (7, p, 0) 10) = 0) (v528_v5_g1 : ¬ (bI (sp_64 fi p 1 o)) = 0) (v546_g0 : ¬ (fi (21, 18, 0) p) = 0) (v546_g1 : ¬ (fi (21, 16, 0) ((6 * p) + o)) = 0) (K : ∀ u5 u6 u7 : Option xm_V, xm_G E 8 true 145 43 [some (xm_r (40, 0, 0)), some (xm_r (0, 0, 0)), some (xm_r (20, 0, 0)), some (xm_r (30, 0, 0)), some (xm_i (nI (i + 5))), u5, u6, u7] [] (c, (xm_up fi (20, 0, 0) 0 (0 : Int32)), (xm_up fl (30, 0, 0) 0 ((sp_65 fi p 1 o).toInt64)), r) R) : ∀ u5 u6 u7 : Option xm_V, xm_G E 8 true 145 43 [some (xm_r (40, 0, 0)), some (xm_r (0, 0, 0)), some (xm_r (20, 0, 0)), some (xm_r (30, 0, 0)), some (xm_i (nI i)), u5, u6, u7] [] (c, fi, fl, r) R := by
  have hn := sh_n hs
  intro u5 u6 u7
  refine pg_145_43 rfl ?_
  refine pg_145_45 rfl ?_
  refine pg_145_46 (t := 110) (n := L) (Or.inl hsc) ?_
  refine pg_145_47 ?_
  refine pg_145_48 ?_
  refine pg_145_49 (fun hc => absurd hc (lw_go hi hL)) (fun _ => ?_)
  refine pg_145_52 rfl ?_
  refine pg_145_53 rfl ?_
  refine pg_145_55 (n := L) (Or.inr hsc) (i := i) rfl (by omega) hL ?_
  refine go_top (y := xs i) (((kp_re [2000] fi) (40, 0, 0) _ rfl).trans (hxs _ (by omega))) ?_
  refine pg_145_56 ?_
  refine pg_145_58 ?_
  refine go_top (y := (6 : Int32)) hop ?_
  refine pg_145_59 (off := 455) (t := 514) (by decide) (by decide) ?_
  refine pg_145_514 rfl ?_
  refine pg_145_515 rfl ?_
  refine pg_145_516 rfl ?_
  refine pg_145_518 ?_
  refine pg_145_519 ?_
  refine go_top (y := nI (i + 1)) (nx_add rfl (rfl : (1 : Int32) = nI 1)) ?_
  refine pg_145_520 (n := L) (Or.inr hsc) (i := (i + 1)) rfl (by omega) hL ?_
  refine go_top (y := xs (i + 1)) (((kp_re [2000] fi) (40, 0, 0) _ rfl).trans (hxs _ (by omega))) ?_
  refine go_top (y := nI p) ho1 ?_
  refine pg_145_521 rfl ?_
  refine pg_145_522 rfl ?_
  refine pg_145_524 ?_
  refine pg_145_525 ?_
  refine go_top (y := nI (i + 2)) (nx_add rfl (rfl : (2 : Int32) = nI 2)) ?_
  refine pg_145_526 (n := L) (Or.inr hsc) (i := (i + 2)) rfl (by omega) hL ?_
  refine go_top (y := xs (i + 2)) (((kp_re [2000] fi) (40, 0, 0) _ rfl).trans (hxs _ (by omega))) ?_
  refine go_top (y := nI o) ho2 ?_
  refine pg_145_527 rfl ?_
  refine pg_145_528 (Nat.le_of_ble_eq_true rfl) (ct_132v2 (p := p) (o := o) hs (by omega) (by omega) v528_v5_g0 v528_v5_g1) ?_
  refine pg_145_531 (lv' := [some (xm_r (40, 0, 0)), some (xm_r (0, 0, 0)), some (xm_r (20, 0, 0)), some (xm_r (30, 0, 0)), some (xm_i (nI i)), some (xm_i (0 : Int32)), u6, u7]) rfl ?_
  refine pg_145_533 rfl ?_
  refine pg_145_534 rfl ?_
  refine pg_145_535 rfl ?_
  refine pg_145_537 ?_
  refine pg_145_538 ?_
  refine go_top (y := nI (i + 1)) (nx_add rfl (rfl : (1 : Int32) = nI 1)) ?_
  refine pg_145_539 (n := L) (Or.inr hsc) (i := (i + 1)) rfl (by omega) hL ?_
  refine go_top (y := xs (i + 1)) (((kp_re [2000] fi) (40, 0, 0) _ rfl).trans (hxs _ (by omega))) ?_
  refine go_top (y := nI p) ho1 ?_
  refine pg_145_540 rfl ?_
  refine pg_145_541 rfl ?_
  refine pg_145_543 ?_
  refine pg_145_544 ?_
  refine go_top (y := nI (i + 2)) (nx_add rfl (rfl : (2 : Int32) = nI 2)) ?_
  refine pg_145_545 (n := L) (Or.inr hsc) (i := (i + 2)) rfl (by omega) hL ?_
  refine go_top (y := xs (i + 2)) (((kp_re [2000] fi) (40, 0, 0) _ rfl).trans (hxs _ (by omega))) ?_
  refine go_top (y := nI o) ho2 ?_
  refine pg_145_546 (sk20 hs) (Nat.le_of_ble_eq_true rfl) (ct_104v2 (p := p) (o := o) hs (by omega) (by omega) (fz_kp hf (kp_re [2000] fi) rfl rfl rfl) v546_g0 v546_g1) ?_
  refine pg_145_549 (lv' := [some (xm_r (40, 0, 0)), some (xm_r (0, 0, 0)), some (xm_r (20, 0, 0)), some (xm_r (30, 0, 0)), some (xm_i (nI i)), some (xm_i (0 : Int32)), some (xm_i (fi (21, 17, 0) ((6 * p) + o))), u7]) rfl ?_
  refine pg_145_551 rfl ?_
  refine pg_145_552 (sk20 hs) (Nat.le_of_ble_eq_true rfl) (ct_69  hs) ?_
  refine go_top (y := (0 : Int32)) (by unfold sp_69; simp [xm_up]) ?_
  refine pg_145_555 rfl ?_
  refine pg_145_557 (fun _ => ?_) (fun hc => absurd (by decide) hc)
  refine pg_145_562 rfl ?_
  refine pg_145_564 (fun hc => absurd (by decide) hc) (fun _ => ?_)
  refine pg_145_567 rfl ?_
  refine pg_145_568 ?_
  refine pg_145_569 (sk30 hs) (i := 0) (rfl : (0 : Int32) = nI 0) (by omega) (by omega) ?_
  refine pg_145_570 rfl ?_
  refine pg_145_572 ?_
  refine pg_145_573 ?_
  refine pg_145_574 (fun _ => ?_) (fun hc => absurd g0 hc)
  refine pg_145_579 ?_
  refine pg_145_1274 (y := (nI (i + 5))) (lv' := [some (xm_r (40, 0, 0)), some (xm_r (0, 0, 0)), some (xm_r (20, 0, 0)), some (xm_r (30, 0, 0)), some (xm_i (nI (i + 5))), some (xm_i (0 : Int32)), some (xm_i (fi (21, 17, 0) ((6 * p) + o))), u7]) rfl (nI_add i 5) rfl ?_
  refine pg_145_1277 ?_
  exact K _ _ _
theorem lw_6_j {n : Nat} {E : xm_E} {c : Nat × Nat} {fi : FI} {fl : FL} {r : xm_I → Nat → Option xm_I} {L i : Nat} {xs : Nat → Int32} {p : Nat} {R : xm_O} (hs : sh n E c r) (hf : fz n fi) (hB : BZ fi) (hsc : E.1 (40, 0, 0) = (110, L)) (hL : L < 100000) (hi : i + 5 ≤ L) (hxs : ∀ j, j < L → fi (40, 0, 0) j = xs j) (hop : xs i &&& 31 = 6) (ho1 : xs (i + 1) = nI p) (hp : p < n) (hx : 200 ≤ (E.1 (E.2.2 c.1)).1) (v528_v5_g0 : (bI (sp_8 n (xs (i + 2)))) = 0) (v546_g0 : ¬ (bI (sp_99 n (xs (i + 2)))) = 0) (K : ∀ u5 u6 u7 : Option xm_V, xm_G E 8 true 145 43 [some (xm_r (40, 0, 0)), some (xm_r (0, 0, 0)), some (xm_r (20, 0, 0)), some (xm_r (30, 0, 0)), some (xm_i (nI (i + 5))), u5, u6, u7] [] ((c.1 + 1, c.2 + 6), (xm_up fi (20, 0, 0) 0 (1 : Int32)), fl, r) R) : ∀ u5 u6 u7 : Option xm_V, xm_G E 8 true 145 43 [some (xm_r (40, 0, 0)), some (xm_r (0, 0, 0)), some (xm_r (20, 0, 0)), some (xm_r (30, 0, 0)), some (xm_i (nI i)), u5, u6, u7] [] (c, fi, fl, r) R := by
  have hn := sh_n hs
  intro u5 u6 u7
  refine pg_145_43 rfl ?_
  refine pg_145_45 rfl ?_
  refine pg_145_46 (t := 110) (n := L) (Or.inl hsc) ?_
  refine pg_145_47 ?_
  refine pg_145_48 ?_
  refine pg_145_49 (fun hc => absurd hc (lw_go hi hL)) (fun _ => ?_)
  refine pg_145_52 rfl ?_
  refine pg_145_53 rfl ?_
  refine pg_145_55 (n := L) (Or.inr hsc) (i := i) rfl (by omega) hL ?_
  refine go_top (y := xs i) (((kp_re [2000] fi) (40, 0, 0) _ rfl).trans (hxs _ (by omega))) ?_
  refine pg_145_56 ?_
  refine pg_145_58 ?_
  refine go_top (y := (6 : Int32)) hop ?_
  refine pg_145_59 (off := 455) (t := 514) (by decide) (by decide) ?_
  refine pg_145_514 rfl ?_
  refine pg_145_515 rfl ?_
  refine pg_145_516 rfl ?_
  refine pg_145_518 ?_
  refine pg_145_519 ?_
  refine go_top (y := nI (i + 1)) (nx_add rfl (rfl : (1 : Int32) = nI 1)) ?_
  refine pg_145_520 (n := L) (Or.inr hsc) (i := (i + 1)) rfl (by omega) hL ?_
  refine go_top (y := xs (i + 1)) (((kp_re [2000] fi) (40, 0, 0) _ rfl).trans (hxs _ (by omega))) ?_
  refine go_top (y := nI p) ho1 ?_
  refine pg_145_521 rfl ?_
  refine pg_145_522 rfl ?_
  refine pg_145_524 ?_
  refine pg_145_525 ?_
  refine go_top (y := nI (i + 2)) (nx_add rfl (rfl : (2 : Int32) = nI 2)) ?_
  refine pg_145_526 (n := L) (Or.inr hsc) (i := (i + 2)) rfl (by omega) hL ?_
  refine go_top (y := xs (i + 2)) (((kp_re [2000] fi) (40, 0, 0) _ rfl).trans (hxs _ (by omega))) ?_
  refine pg_145_527 rfl ?_
  refine pg_145_528 (Nat.le_of_ble_eq_true rfl) (ct_132j0 (p := p) (y := (xs (i + 2))) hs (by omega) hx v528_v5_g0) ?_
  have hs := sh_up hs
  refine pg_145_531 (lv' := [some (xm_r (40, 0, 0)), some (xm_r (0, 0, 0)), some (xm_r (20, 0, 0)), some (xm_r (30, 0, 0)), some (xm_i (nI i)), some (xm_i (1 : Int32)), u6, u7]) rfl ?_
  refine pg_145_533 rfl ?_
  refine pg_145_534 rfl ?_
  refine pg_145_535 rfl ?_
  refine pg_145_537 ?_
  refine pg_145_538 ?_
  refine go_top (y := nI (i + 1)) (nx_add rfl (rfl : (1 : Int32) = nI 1)) ?_
  refine pg_145_539 (n := L) (Or.inr hsc) (i := (i + 1)) rfl (by omega) hL ?_
  refine go_top (y := xs (i + 1)) (((kp_re [2000] fi) (40, 0, 0) _ rfl).trans (hxs _ (by omega))) ?_
  refine go_top (y := nI p) ho1 ?_
  refine pg_145_540 rfl ?_
  refine pg_145_541 rfl ?_
  refine pg_145_543 ?_
  refine pg_145_544 ?_
  refine go_top (y := nI (i + 2)) (nx_add rfl (rfl : (2 : Int32) = nI 2)) ?_
  refine pg_145_545 (n := L) (Or.inr hsc) (i := (i + 2)) rfl (by omega) hL ?_
  refine go_top (y := xs (i + 2)) (((kp_re [2000] fi) (40, 0, 0) _ rfl).trans (hxs _ (by omega))) ?_
  refine pg_145_546 (sk20 hs) (Nat.le_of_ble_eq_true rfl) (ct_104j1 (p := p) (y := (xs (i + 2))) hs (by omega) (fz_kp hf (kp_re [2000] fi) rfl rfl rfl) v546_g0) ?_
  refine pg_145_549 (lv' := [some (xm_r (40, 0, 0)), some (xm_r (0, 0, 0)), some (xm_r (20, 0, 0)), some (xm_r (30, 0, 0)), some (xm_i (nI i)), some (xm_i (1 : Int32)), some (xm_i (0 : Int32)), u7]) rfl ?_
  refine pg_145_551 rfl ?_
  refine pg_145_552 (sk20 hs) (Nat.le_of_ble_eq_true rfl) (ct_69  hs) ?_
  refine go_top (y := (1 : Int32)) (by unfold sp_69; simp [xm_up]) ?_
  refine pg_145_555 rfl ?_
  refine pg_145_557 (fun _ => ?_) (fun hc => absurd (by decide) hc)
  refine pg_145_562 rfl ?_
  refine pg_145_564 (fun _ => ?_) (fun hc => absurd hc (by decide))
  refine pg_145_579 ?_
  refine pg_145_1274 (y := (nI (i + 5))) (lv' := [some (xm_r (40, 0, 0)), some (xm_r (0, 0, 0)), some (xm_r (20, 0, 0)), some (xm_r (30, 0, 0)), some (xm_i (nI (i + 5))), some (xm_i (1 : Int32)), some (xm_i (0 : Int32)), u7]) rfl (nI_add i 5) rfl ?_
  refine pg_145_1277 ?_
  exact K _ _ _
theorem lw_6_i {n : Nat} {E : xm_E} {c : Nat × Nat} {fi : FI} {fl : FL} {r : xm_I → Nat → Option xm_I} {L i : Nat} {xs : Nat → Int32} {R : xm_O} (hs : sh n E c r) (hf : fz n fi) (hB : BZ fi) (hsc : E.1 (40, 0, 0) = (110, L)) (hL : L < 100000) (hi : i + 5 ≤ L) (hxs : ∀ j, j < L → fi (40, 0, 0) j = xs j) (hop : xs i &&& 31 = 6) (hx : 200 ≤ (E.1 (E.2.2 c.1)).1) (v528_v5_g0 : (bI (sp_8 n (xs (i + 1)))) = 0) (v546_g0 : ¬ (bI (sp_99 n (xs (i + 1)))) = 0) (K : ∀ u5 u6 u7 : Option xm_V, xm_G E 8 true 145 43 [some (xm_r (40, 0, 0)), some (xm_r (0, 0, 0)), some (xm_r (20, 0, 0)), some (xm_r (30, 0, 0)), some (xm_i (nI (i + 5))), u5, u6, u7] [] ((c.1 + 1, c.2 + 6), (xm_up fi (20, 0, 0) 0 (1 : Int32)), fl, r) R) : ∀ u5 u6 u7 : Option xm_V, xm_G E 8 true 145 43 [some (xm_r (40, 0, 0)), some (xm_r (0, 0, 0)), some (xm_r (20, 0, 0)), some (xm_r (30, 0, 0)), some (xm_i (nI i)), u5, u6, u7] [] (c, fi, fl, r) R := by
  have hn := sh_n hs
  intro u5 u6 u7
  refine pg_145_43 rfl ?_
  refine pg_145_45 rfl ?_
  refine pg_145_46 (t := 110) (n := L) (Or.inl hsc) ?_
  refine pg_145_47 ?_
  refine pg_145_48 ?_
  refine pg_145_49 (fun hc => absurd hc (lw_go hi hL)) (fun _ => ?_)
  refine pg_145_52 rfl ?_
  refine pg_145_53 rfl ?_
  refine pg_145_55 (n := L) (Or.inr hsc) (i := i) rfl (by omega) hL ?_
  refine go_top (y := xs i) (((kp_re [2000] fi) (40, 0, 0) _ rfl).trans (hxs _ (by omega))) ?_
  refine pg_145_56 ?_
  refine pg_145_58 ?_
  refine go_top (y := (6 : Int32)) hop ?_
  refine pg_145_59 (off := 455) (t := 514) (by decide) (by decide) ?_
  refine pg_145_514 rfl ?_
  refine pg_145_515 rfl ?_
  refine pg_145_516 rfl ?_
  refine pg_145_518 ?_
  refine pg_145_519 ?_
  refine go_top (y := nI (i + 1)) (nx_add rfl (rfl : (1 : Int32) = nI 1)) ?_
  refine pg_145_520 (n := L) (Or.inr hsc) (i := (i + 1)) rfl (by omega) hL ?_
  refine go_top (y := xs (i + 1)) (((kp_re [2000] fi) (40, 0, 0) _ rfl).trans (hxs _ (by omega))) ?_
  refine pg_145_521 rfl ?_
  refine pg_145_522 rfl ?_
  refine pg_145_524 ?_
  refine pg_145_525 ?_
  refine go_top (y := nI (i + 2)) (nx_add rfl (rfl : (2 : Int32) = nI 2)) ?_
  refine pg_145_526 (n := L) (Or.inr hsc) (i := (i + 2)) rfl (by omega) hL ?_
  refine go_top (y := xs (i + 2)) (((kp_re [2000] fi) (40, 0, 0) _ rfl).trans (hxs _ (by omega))) ?_
  refine pg_145_527 rfl ?_
  refine pg_145_528 (Nat.le_of_ble_eq_true rfl) (ct_132i0 (x := (xs (i + 1))) (y := (xs (i + 2))) hs hx v528_v5_g0) ?_
  have hs := sh_up hs
  refine pg_145_531 (lv' := [some (xm_r (40, 0, 0)), some (xm_r (0, 0, 0)), some (xm_r (20, 0, 0)), some (xm_r (30, 0, 0)), some (xm_i (nI i)), some (xm_i (1 : Int32)), u6, u7]) rfl ?_
  refine pg_145_533 rfl ?_
  refine pg_145_534 rfl ?_
  refine pg_145_535 rfl ?_
  refine pg_145_537 ?_
  refine pg_145_538 ?_
  refine go_top (y := nI (i + 1)) (nx_add rfl (rfl : (1 : Int32) = nI 1)) ?_
  refine pg_145_539 (n := L) (Or.inr hsc) (i := (i + 1)) rfl (by omega) hL ?_
  refine go_top (y := xs (i + 1)) (((kp_re [2000] fi) (40, 0, 0) _ rfl).trans (hxs _ (by omega))) ?_
  refine pg_145_540 rfl ?_
  refine pg_145_541 rfl ?_
  refine pg_145_543 ?_
  refine pg_145_544 ?_
  refine go_top (y := nI (i + 2)) (nx_add rfl (rfl : (2 : Int32) = nI 2)) ?_
  refine pg_145_545 (n := L) (Or.inr hsc) (i := (i + 2)) rfl (by omega) hL ?_
  refine go_top (y := xs (i + 2)) (((kp_re [2000] fi) (40, 0, 0) _ rfl).trans (hxs _ (by omega))) ?_
  refine pg_145_546 (sk20 hs) (Nat.le_of_ble_eq_true rfl) (ct_104i1 (x := (xs (i + 1))) (y := (xs (i + 2))) hs (fz_kp hf (kp_re [2000] fi) rfl rfl rfl) v546_g0) ?_
  refine pg_145_549 (lv' := [some (xm_r (40, 0, 0)), some (xm_r (0, 0, 0)), some (xm_r (20, 0, 0)), some (xm_r (30, 0, 0)), some (xm_i (nI i)), some (xm_i (1 : Int32)), some (xm_i (0 : Int32)), u7]) rfl ?_
  refine pg_145_551 rfl ?_
  refine pg_145_552 (sk20 hs) (Nat.le_of_ble_eq_true rfl) (ct_69  hs) ?_
  refine go_top (y := (1 : Int32)) (by unfold sp_69; simp [xm_up]) ?_
  refine pg_145_555 rfl ?_
  refine pg_145_557 (fun _ => ?_) (fun hc => absurd (by decide) hc)
  refine pg_145_562 rfl ?_
  refine pg_145_564 (fun _ => ?_) (fun hc => absurd hc (by decide))
  refine pg_145_579 ?_
  refine pg_145_1274 (y := (nI (i + 5))) (lv' := [some (xm_r (40, 0, 0)), some (xm_r (0, 0, 0)), some (xm_r (20, 0, 0)), some (xm_r (30, 0, 0)), some (xm_i (nI (i + 5))), some (xm_i (1 : Int32)), some (xm_i (0 : Int32)), u7]) rfl (nI_add i 5) rfl ?_
  refine pg_145_1277 ?_
  exact K _ _ _
theorem lw_7_v0 {n : Nat} {E : xm_E} {c : Nat × Nat} {fi : FI} {fl : FL} {r : xm_I → Nat → Option xm_I} {L i : Nat} {xs : Nat → Int32} {p : Nat} {R : xm_O} (hs : sh n E c r) (hf : fz n fi) (hB : BZ fi) (hsc : E.1 (40, 0, 0) = (110, L)) (hL : L < 100000) (hi : i + 5 ≤ L) (hxs : ∀ j, j < L → fi (40, 0, 0) j = xs j) (hop : xs i &&& 31 = 7) (ho1 : xs (i + 1) = nI p) (hp : p < n) (hl : fi (7, p, 0) 3 = 0 ∨ fi (7, p, 0) 3 = 1) (g0 : (lg_cmp ((xm_up fl (30, 0, 0) 0 (if (fi (7, p, 0) 3) = 0 then (0 : Int64) else (1 : Int64))) (30, 0, 0) 0) (0 : Int64)) = 0) (v602_g0 : (fi (21, 11, 0) p) = 0) (K : ∀ u5 u6 u7 : Option xm_V, xm_G E 8 true 145 43 [some (xm_r (40, 0, 0)), some (xm_r (0, 0, 0)), some (xm_r (20, 0, 0)), some (xm_r (30, 0, 0)), some (xm_i (nI (i + 5))), u5, u6, u7] [] (c, (xm_up fi (20, 0, 0) 0 (0 : Int32)), (xm_up fl (30, 0, 0) 0 (if (fi (7, p, 0) 3) = 0 then (0 : Int64) else (1 : Int64))), r) R) : ∀ u5 u6 u7 : Option xm_V, xm_G E 8 true 145 43 [some (xm_r (40, 0, 0)), some (xm_r (0, 0, 0)), some (xm_r (20, 0, 0)), some (xm_r (30, 0, 0)), some (xm_i (nI i)), u5, u6, u7] [] (c, fi, fl, r) R := by
  have hn := sh_n hs
  intro u5 u6 u7
  refine pg_145_43 rfl ?_
  refine pg_145_45 rfl ?_
  refine pg_145_46 (t := 110) (n := L) (Or.inl hsc) ?_
  refine pg_145_47 ?_
  refine pg_145_48 ?_
  refine pg_145_49 (fun hc => absurd hc (lw_go hi hL)) (fun _ => ?_)
  refine pg_145_52 rfl ?_
  refine pg_145_53 rfl ?_
  refine pg_145_55 (n := L) (Or.inr hsc) (i := i) rfl (by omega) hL ?_
  refine go_top (y := xs i) (((kp_re [2000] fi) (40, 0, 0) _ rfl).trans (hxs _ (by omega))) ?_
  refine pg_145_56 ?_
  refine pg_145_58 ?_
  refine go_top (y := (7 : Int32)) hop ?_
  refine pg_145_59 (off := 523) (t := 582) (by decide) (by decide) ?_
  refine pg_145_582 rfl ?_
  refine pg_145_583 rfl ?_
  refine pg_145_584 rfl ?_
  refine pg_145_586 ?_
  refine pg_145_587 ?_
  refine go_top (y := nI (i + 1)) (nx_add rfl (rfl : (1 : Int32) = nI 1)) ?_
  refine pg_145_588 (n := L) (Or.inr hsc) (i := (i + 1)) rfl (by omega) hL ?_
  refine go_top (y := xs (i + 1)) (((kp_re [2000] fi) (40, 0, 0) _ rfl).trans (hxs _ (by omega))) ?_
  refine go_top (y := nI p) ho1 ?_
  refine pg_145_589 rfl ?_
  refine pg_145_590 (Nat.le_of_ble_eq_true rfl) (ct_133v0 (p := p) hs (by omega) hl) ?_
  refine pg_145_593 (lv' := [some (xm_r (40, 0, 0)), some (xm_r (0, 0, 0)), some (xm_r (20, 0, 0)), some (xm_r (30, 0, 0)), some (xm_i (nI i)), some (xm_i (0 : Int32)), u6, u7]) rfl ?_
  refine pg_145_595 rfl ?_
  refine pg_145_596 rfl ?_
  refine pg_145_597 rfl ?_
  refine pg_145_599 ?_
  refine pg_145_600 ?_
  refine go_top (y := nI (i + 1)) (nx_add rfl (rfl : (1 : Int32) = nI 1)) ?_
  refine pg_145_601 (n := L) (Or.inr hsc) (i := (i + 1)) rfl (by omega) hL ?_
  refine go_top (y := xs (i + 1)) (((kp_re [2000] fi) (40, 0, 0) _ rfl).trans (hxs _ (by omega))) ?_
  refine go_top (y := nI p) ho1 ?_
  refine pg_145_602 (sk20 hs) (Nat.le_of_ble_eq_true rfl) (ct_105v0 (p := p) hs (by omega) (fz_kp hf (kp_re [2000] fi) rfl rfl rfl) v602_g0) ?_
  refine pg_145_605 (lv' := [some (xm_r (40, 0, 0)), some (xm_r (0, 0, 0)), some (xm_r (20, 0, 0)), some (xm_r (30, 0, 0)), some (xm_i (nI i)), some (xm_i (0 : Int32)), some (xm_i (0 : Int32)), u7]) rfl ?_
  refine pg_145_607 rfl ?_
  refine pg_145_608 (sk20 hs) (Nat.le_of_ble_eq_true rfl) (ct_69  hs) ?_
  refine go_top (y := (0 : Int32)) (by unfold sp_69; simp [xm_up]) ?_
  refine pg_145_611 rfl ?_
  refine pg_145_613 (fun _ => ?_) (fun hc => absurd (by decide) hc)
  refine pg_145_618 rfl ?_
  refine pg_145_620 (fun hc => absurd (by decide) hc) (fun _ => ?_)
  refine pg_145_623 rfl ?_
  refine pg_145_624 ?_
  refine pg_145_625 (sk30 hs) (i := 0) (rfl : (0 : Int32) = nI 0) (by omega) (by omega) ?_
  refine pg_145_626 rfl ?_
  refine pg_145_628 (fun _ => ?_) (fun hc => absurd (by decide) hc)
  refine pg_145_635 ?_
  refine pg_145_636 ?_
  refine pg_145_637 (fun _ => ?_) (fun hc => absurd g0 hc)
  refine pg_145_642 ?_
  refine pg_145_1274 (y := (nI (i + 5))) (lv' := [some (xm_r (40, 0, 0)), some (xm_r (0, 0, 0)), some (xm_r (20, 0, 0)), some (xm_r (30, 0, 0)), some (xm_i (nI (i + 5))), some (xm_i (0 : Int32)), some (xm_i (0 : Int32)), u7]) rfl (nI_add i 5) rfl ?_
  refine pg_145_1277 ?_
  exact K _ _ _
theorem lw_7_v1 {n : Nat} {E : xm_E} {c : Nat × Nat} {fi : FI} {fl : FL} {r : xm_I → Nat → Option xm_I} {L i : Nat} {xs : Nat → Int32} {p : Nat} {R : xm_O} (hs : sh n E c r) (hf : fz n fi) (hB : BZ fi) (hsc : E.1 (40, 0, 0) = (110, L)) (hL : L < 100000) (hi : i + 5 ≤ L) (hxs : ∀ j, j < L → fi (40, 0, 0) j = xs j) (hop : xs i &&& 31 = 7) (ho1 : xs (i + 1) = nI p) (hp : p < n) (hl : fi (7, p, 0) 3 = 0 ∨ fi (7, p, 0) 3 = 1) (g0 : (lg_cmp ((xm_up fl (30, 0, 0) 0 (if (fi (7, p, 0) 3) = 0 then (0 : Int64) else (1 : Int64))) (30, 0, 0) 0) (1 : Int64)) = 0) (v602_g0 : ¬ (fi (21, 11, 0) p) = 0) (K : ∀ u5 u6 u7 : Option xm_V, xm_G E 8 true 145 43 [some (xm_r (40, 0, 0)), some (xm_r (0, 0, 0)), some (xm_r (20, 0, 0)), some (xm_r (30, 0, 0)), some (xm_i (nI (i + 5))), u5, u6, u7] [] (c, (xm_up fi (20, 0, 0) 0 (0 : Int32)), (xm_up fl (30, 0, 0) 0 (if (fi (7, p, 0) 3) = 0 then (0 : Int64) else (1 : Int64))), r) R) : ∀ u5 u6 u7 : Option xm_V, xm_G E 8 true 145 43 [some (xm_r (40, 0, 0)), some (xm_r (0, 0, 0)), some (xm_r (20, 0, 0)), some (xm_r (30, 0, 0)), some (xm_i (nI i)), u5, u6, u7] [] (c, fi, fl, r) R := by
  have hn := sh_n hs
  intro u5 u6 u7
  refine pg_145_43 rfl ?_
  refine pg_145_45 rfl ?_
  refine pg_145_46 (t := 110) (n := L) (Or.inl hsc) ?_
  refine pg_145_47 ?_
  refine pg_145_48 ?_
  refine pg_145_49 (fun hc => absurd hc (lw_go hi hL)) (fun _ => ?_)
  refine pg_145_52 rfl ?_
  refine pg_145_53 rfl ?_
  refine pg_145_55 (n := L) (Or.inr hsc) (i := i) rfl (by omega) hL ?_
  refine go_top (y := xs i) (((kp_re [2000] fi) (40, 0, 0) _ rfl).trans (hxs _ (by omega))) ?_
  refine pg_145_56 ?_
  refine pg_145_58 ?_
  refine go_top (y := (7 : Int32)) hop ?_
  refine pg_145_59 (off := 523) (t := 582) (by decide) (by decide) ?_
  refine pg_145_582 rfl ?_
  refine pg_145_583 rfl ?_
  refine pg_145_584 rfl ?_
  refine pg_145_586 ?_
  refine pg_145_587 ?_
  refine go_top (y := nI (i + 1)) (nx_add rfl (rfl : (1 : Int32) = nI 1)) ?_
  refine pg_145_588 (n := L) (Or.inr hsc) (i := (i + 1)) rfl (by omega) hL ?_
  refine go_top (y := xs (i + 1)) (((kp_re [2000] fi) (40, 0, 0) _ rfl).trans (hxs _ (by omega))) ?_
  refine go_top (y := nI p) ho1 ?_
  refine pg_145_589 rfl ?_
  refine pg_145_590 (Nat.le_of_ble_eq_true rfl) (ct_133v0 (p := p) hs (by omega) hl) ?_
  refine pg_145_593 (lv' := [some (xm_r (40, 0, 0)), some (xm_r (0, 0, 0)), some (xm_r (20, 0, 0)), some (xm_r (30, 0, 0)), some (xm_i (nI i)), some (xm_i (0 : Int32)), u6, u7]) rfl ?_
  refine pg_145_595 rfl ?_
  refine pg_145_596 rfl ?_
  refine pg_145_597 rfl ?_
  refine pg_145_599 ?_
  refine pg_145_600 ?_
  refine go_top (y := nI (i + 1)) (nx_add rfl (rfl : (1 : Int32) = nI 1)) ?_
  refine pg_145_601 (n := L) (Or.inr hsc) (i := (i + 1)) rfl (by omega) hL ?_
  refine go_top (y := xs (i + 1)) (((kp_re [2000] fi) (40, 0, 0) _ rfl).trans (hxs _ (by omega))) ?_
  refine go_top (y := nI p) ho1 ?_
  refine pg_145_602 (sk20 hs) (Nat.le_of_ble_eq_true rfl) (ct_105v1 (p := p) hs (by omega) (fz_kp hf (kp_re [2000] fi) rfl rfl rfl) v602_g0) ?_
  refine pg_145_605 (lv' := [some (xm_r (40, 0, 0)), some (xm_r (0, 0, 0)), some (xm_r (20, 0, 0)), some (xm_r (30, 0, 0)), some (xm_i (nI i)), some (xm_i (0 : Int32)), some (xm_i (1 : Int32)), u7]) rfl ?_
  refine pg_145_607 rfl ?_
  refine pg_145_608 (sk20 hs) (Nat.le_of_ble_eq_true rfl) (ct_69  hs) ?_
  refine go_top (y := (0 : Int32)) (by unfold sp_69; simp [xm_up]) ?_
  refine pg_145_611 rfl ?_
  refine pg_145_613 (fun _ => ?_) (fun hc => absurd (by decide) hc)
  refine pg_145_618 rfl ?_
  refine pg_145_620 (fun hc => absurd (by decide) hc) (fun _ => ?_)
  refine pg_145_623 rfl ?_
  refine pg_145_624 ?_
  refine pg_145_625 (sk30 hs) (i := 0) (rfl : (0 : Int32) = nI 0) (by omega) (by omega) ?_
  refine pg_145_626 rfl ?_
  refine pg_145_628 (fun hc => absurd hc (by decide)) (fun _ => ?_)
  refine pg_145_631 ?_
  refine pg_145_632 ?_
  refine pg_145_636 ?_
  refine pg_145_637 (fun _ => ?_) (fun hc => absurd g0 hc)
  refine pg_145_642 ?_
  refine pg_145_1274 (y := (nI (i + 5))) (lv' := [some (xm_r (40, 0, 0)), some (xm_r (0, 0, 0)), some (xm_r (20, 0, 0)), some (xm_r (30, 0, 0)), some (xm_i (nI (i + 5))), some (xm_i (0 : Int32)), some (xm_i (1 : Int32)), u7]) rfl (nI_add i 5) rfl ?_
  refine pg_145_1277 ?_
  exact K _ _ _
theorem lw_7_i {n : Nat} {E : xm_E} {c : Nat × Nat} {fi : FI} {fl : FL} {r : xm_I → Nat → Option xm_I} {L i : Nat} {xs : Nat → Int32} {R : xm_O} (hs : sh n E c r) (hf : fz n fi) (hB : BZ fi) (hsc : E.1 (40, 0, 0) = (110, L)) (hL : L < 100000) (hi : i + 5 ≤ L) (hxs : ∀ j, j < L → fi (40, 0, 0) j = xs j) (hop : xs i &&& 31 = 7) (hx : 200 ≤ (E.1 (E.2.2 c.1)).1) (v590_v4_g0 : (bI (sp_8 n (xs (i + 1)))) = 0) (v602_g0 : ¬ (bI (sp_99 n (xs (i + 1)))) = 0) (K : ∀ u5 u6 u7 : Option xm_V, xm_G E 8 true 145 43 [some (xm_r (40, 0, 0)), some (xm_r (0, 0, 0)), some (xm_r (20, 0, 0)), some (xm_r (30, 0, 0)), some (xm_i (nI (i + 5))), u5, u6, u7] [] ((c.1 + 1, c.2 + 6), (xm_up fi (20, 0, 0) 0 (1 : Int32)), fl, r) R) : ∀ u5 u6 u7 : Option xm_V, xm_G E 8 true 145 43 [some (xm_r (40, 0, 0)), some (xm_r (0, 0, 0)), some (xm_r (20, 0, 0)), some (xm_r (30, 0, 0)), some (xm_i (nI i)), u5, u6, u7] [] (c, fi, fl, r) R := by
  have hn := sh_n hs
  intro u5 u6 u7
  refine pg_145_43 rfl ?_
  refine pg_145_45 rfl ?_
  refine pg_145_46 (t := 110) (n := L) (Or.inl hsc) ?_
  refine pg_145_47 ?_
  refine pg_145_48 ?_
  refine pg_145_49 (fun hc => absurd hc (lw_go hi hL)) (fun _ => ?_)
  refine pg_145_52 rfl ?_
  refine pg_145_53 rfl ?_
  refine pg_145_55 (n := L) (Or.inr hsc) (i := i) rfl (by omega) hL ?_
  refine go_top (y := xs i) (((kp_re [2000] fi) (40, 0, 0) _ rfl).trans (hxs _ (by omega))) ?_
  refine pg_145_56 ?_
  refine pg_145_58 ?_
  refine go_top (y := (7 : Int32)) hop ?_
  refine pg_145_59 (off := 523) (t := 582) (by decide) (by decide) ?_
  refine pg_145_582 rfl ?_
  refine pg_145_583 rfl ?_
  refine pg_145_584 rfl ?_
  refine pg_145_586 ?_
  refine pg_145_587 ?_
  refine go_top (y := nI (i + 1)) (nx_add rfl (rfl : (1 : Int32) = nI 1)) ?_
  refine pg_145_588 (n := L) (Or.inr hsc) (i := (i + 1)) rfl (by omega) hL ?_
  refine go_top (y := xs (i + 1)) (((kp_re [2000] fi) (40, 0, 0) _ rfl).trans (hxs _ (by omega))) ?_
  refine pg_145_589 rfl ?_
  refine pg_145_590 (Nat.le_of_ble_eq_true rfl) (ct_133i0 (x := (xs (i + 1))) hs hx v590_v4_g0) ?_
  have hs := sh_up hs
  refine pg_145_593 (lv' := [some (xm_r (40, 0, 0)), some (xm_r (0, 0, 0)), some (xm_r (20, 0, 0)), some (xm_r (30, 0, 0)), some (xm_i (nI i)), some (xm_i (1 : Int32)), u6, u7]) rfl ?_
  refine pg_145_595 rfl ?_
  refine pg_145_596 rfl ?_
  refine pg_145_597 rfl ?_
  refine pg_145_599 ?_
  refine pg_145_600 ?_
  refine go_top (y := nI (i + 1)) (nx_add rfl (rfl : (1 : Int32) = nI 1)) ?_
  refine pg_145_601 (n := L) (Or.inr hsc) (i := (i + 1)) rfl (by omega) hL ?_
  refine go_top (y := xs (i + 1)) (((kp_re [2000] fi) (40, 0, 0) _ rfl).trans (hxs _ (by omega))) ?_
  refine pg_145_602 (sk20 hs) (Nat.le_of_ble_eq_true rfl) (ct_105i0 (x := (xs (i + 1))) hs (fz_kp hf (kp_re [2000] fi) rfl rfl rfl) v602_g0) ?_
  refine pg_145_605 (lv' := [some (xm_r (40, 0, 0)), some (xm_r (0, 0, 0)), some (xm_r (20, 0, 0)), some (xm_r (30, 0, 0)), some (xm_i (nI i)), some (xm_i (1 : Int32)), some (xm_i (0 : Int32)), u7]) rfl ?_
  refine pg_145_607 rfl ?_
  refine pg_145_608 (sk20 hs) (Nat.le_of_ble_eq_true rfl) (ct_69  hs) ?_
  refine go_top (y := (1 : Int32)) (by unfold sp_69; simp [xm_up]) ?_
  refine pg_145_611 rfl ?_
  refine pg_145_613 (fun _ => ?_) (fun hc => absurd (by decide) hc)
  refine pg_145_618 rfl ?_
  refine pg_145_620 (fun _ => ?_) (fun hc => absurd hc (by decide))
  refine pg_145_642 ?_
  refine pg_145_1274 (y := (nI (i + 5))) (lv' := [some (xm_r (40, 0, 0)), some (xm_r (0, 0, 0)), some (xm_r (20, 0, 0)), some (xm_r (30, 0, 0)), some (xm_i (nI (i + 5))), some (xm_i (1 : Int32)), some (xm_i (0 : Int32)), u7]) rfl (nI_add i 5) rfl ?_
  refine pg_145_1277 ?_
  exact K _ _ _
theorem lw_8_v0 {n : Nat} {E : xm_E} {c : Nat × Nat} {fi : FI} {fl : FL} {r : xm_I → Nat → Option xm_I} {L i : Nat} {xs : Nat → Int32} {o : Nat} {p : Nat} {R : xm_O} (hs : sh n E c r) (hf : fz n fi) (hB : BZ fi) (hsc : E.1 (40, 0, 0) = (110, L)) (hL : L < 100000) (hi : i + 5 ≤ L) (hxs : ∀ j, j < L → fi (40, 0, 0) j = xs j) (hop : xs i &&& 31 = 8) (ho1 : xs (i + 1) = nI p) (ho2 : xs (i + 2) = nI o) (hp : p < n) (ho : o < n) (g0 : (lg_cmp ((xm_up fl (30, 0, 0) 0 (if (bI (sp_50 fi p o)) = 0 then (0 : Int64) else (1 : Int64))) (30, 0, 0) 0) (0 : Int64)) = 0) (v659_v5_g0 : (fi (7, p, 0) 3) = 0) (v677_g0 : (fi (21, 11, 0) p) = 0) (v677_g1 : (fi (21, 14, 0) ((6 * p) + o)) = 0) (K : ∀ u5 u6 u7 : Option xm_V, xm_G E 8 true 145 43 [some (xm_r (40, 0, 0)), some (xm_r (0, 0, 0)), some (xm_r (20, 0, 0)), some (xm_r (30, 0, 0)), some (xm_i (nI (i + 5))), u5, u6, u7] [] (c, (xm_up fi (20, 0, 0) 0 (0 : Int32)), (xm_up fl (30, 0, 0) 0 (if (bI (sp_50 fi p o)) = 0 then (0 : Int64) else (1 : Int64))), r) R) : ∀ u5 u6 u7 : Option xm_V, xm_G E 8 true 145 43 [some (xm_r (40, 0, 0)), some (xm_r (0, 0, 0)), some (xm_r (20, 0, 0)), some (xm_r (30, 0, 0)), some (xm_i (nI i)), u5, u6, u7] [] (c, fi, fl, r) R := by
  have hn := sh_n hs
  intro u5 u6 u7
  refine pg_145_43 rfl ?_
  refine pg_145_45 rfl ?_
  refine pg_145_46 (t := 110) (n := L) (Or.inl hsc) ?_
  refine pg_145_47 ?_
  refine pg_145_48 ?_
  refine pg_145_49 (fun hc => absurd hc (lw_go hi hL)) (fun _ => ?_)
  refine pg_145_52 rfl ?_
  refine pg_145_53 rfl ?_
  refine pg_145_55 (n := L) (Or.inr hsc) (i := i) rfl (by omega) hL ?_
  refine go_top (y := xs i) (((kp_re [2000] fi) (40, 0, 0) _ rfl).trans (hxs _ (by omega))) ?_
  refine pg_145_56 ?_
  refine pg_145_58 ?_
  refine go_top (y := (8 : Int32)) hop ?_
  refine pg_145_59 (off := 586) (t := 645) (by decide) (by decide) ?_
  refine pg_145_645 rfl ?_
  refine pg_145_646 rfl ?_
  refine pg_145_647 rfl ?_
  refine pg_145_649 ?_
  refine pg_145_650 ?_
  refine go_top (y := nI (i + 1)) (nx_add rfl (rfl : (1 : Int32) = nI 1)) ?_
  refine pg_145_651 (n := L) (Or.inr hsc) (i := (i + 1)) rfl (by omega) hL ?_
  refine go_top (y := xs (i + 1)) (((kp_re [2000] fi) (40, 0, 0) _ rfl).trans (hxs _ (by omega))) ?_
  refine go_top (y := nI p) ho1 ?_
  refine pg_145_652 rfl ?_
  refine pg_145_653 rfl ?_
  refine pg_145_655 ?_
  refine pg_145_656 ?_
  refine go_top (y := nI (i + 2)) (nx_add rfl (rfl : (2 : Int32) = nI 2)) ?_
  refine pg_145_657 (n := L) (Or.inr hsc) (i := (i + 2)) rfl (by omega) hL ?_
  refine go_top (y := xs (i + 2)) (((kp_re [2000] fi) (40, 0, 0) _ rfl).trans (hxs _ (by omega))) ?_
  refine go_top (y := nI o) ho2 ?_
  refine pg_145_658 rfl ?_
  refine pg_145_659 (Nat.le_of_ble_eq_true rfl) (ct_134v0 (p := p) (o := o) hs (by omega) (by omega) v659_v5_g0) ?_
  refine pg_145_662 (lv' := [some (xm_r (40, 0, 0)), some (xm_r (0, 0, 0)), some (xm_r (20, 0, 0)), some (xm_r (30, 0, 0)), some (xm_i (nI i)), some (xm_i (0 : Int32)), u6, u7]) rfl ?_
  refine pg_145_664 rfl ?_
  refine pg_145_665 rfl ?_
  refine pg_145_666 rfl ?_
  refine pg_145_668 ?_
  refine pg_145_669 ?_
  refine go_top (y := nI (i + 1)) (nx_add rfl (rfl : (1 : Int32) = nI 1)) ?_
  refine pg_145_670 (n := L) (Or.inr hsc) (i := (i + 1)) rfl (by omega) hL ?_
  refine go_top (y := xs (i + 1)) (((kp_re [2000] fi) (40, 0, 0) _ rfl).trans (hxs _ (by omega))) ?_
  refine go_top (y := nI p) ho1 ?_
  refine pg_145_671 rfl ?_
  refine pg_145_672 rfl ?_
  refine pg_145_674 ?_
  refine pg_145_675 ?_
  refine go_top (y := nI (i + 2)) (nx_add rfl (rfl : (2 : Int32) = nI 2)) ?_
  refine pg_145_676 (n := L) (Or.inr hsc) (i := (i + 2)) rfl (by omega) hL ?_
  refine go_top (y := xs (i + 2)) (((kp_re [2000] fi) (40, 0, 0) _ rfl).trans (hxs _ (by omega))) ?_
  refine go_top (y := nI o) ho2 ?_
  refine pg_145_677 (sk20 hs) (Nat.le_of_ble_eq_true rfl) (ct_106v0 (p := p) (o := o) hs (by omega) (by omega) (fz_kp hf (kp_re [2000] fi) rfl rfl rfl) v677_g0 v677_g1) ?_
  refine pg_145_680 (lv' := [some (xm_r (40, 0, 0)), some (xm_r (0, 0, 0)), some (xm_r (20, 0, 0)), some (xm_r (30, 0, 0)), some (xm_i (nI i)), some (xm_i (0 : Int32)), some (xm_i (0 : Int32)), u7]) rfl ?_
  refine pg_145_682 rfl ?_
  refine pg_145_683 (sk20 hs) (Nat.le_of_ble_eq_true rfl) (ct_69  hs) ?_
  refine go_top (y := (0 : Int32)) (by unfold sp_69; simp [xm_up]) ?_
  refine pg_145_686 rfl ?_
  refine pg_145_688 (fun _ => ?_) (fun hc => absurd (by decide) hc)
  refine pg_145_693 rfl ?_
  refine pg_145_695 (fun hc => absurd (by decide) hc) (fun _ => ?_)
  refine pg_145_698 rfl ?_
  refine pg_145_699 ?_
  refine pg_145_700 (sk30 hs) (i := 0) (rfl : (0 : Int32) = nI 0) (by omega) (by omega) ?_
  refine pg_145_701 rfl ?_
  refine pg_145_703 (fun _ => ?_) (fun hc => absurd (by decide) hc)
  refine pg_145_710 ?_
  refine pg_145_711 ?_
  refine pg_145_712 (fun _ => ?_) (fun hc => absurd g0 hc)
  refine pg_145_717 ?_
  refine pg_145_1274 (y := (nI (i + 5))) (lv' := [some (xm_r (40, 0, 0)), some (xm_r (0, 0, 0)), some (xm_r (20, 0, 0)), some (xm_r (30, 0, 0)), some (xm_i (nI (i + 5))), some (xm_i (0 : Int32)), some (xm_i (0 : Int32)), u7]) rfl (nI_add i 5) rfl ?_
  refine pg_145_1277 ?_
  exact K _ _ _
theorem lw_8_v1 {n : Nat} {E : xm_E} {c : Nat × Nat} {fi : FI} {fl : FL} {r : xm_I → Nat → Option xm_I} {L i : Nat} {xs : Nat → Int32} {o : Nat} {p : Nat} {R : xm_O} (hs : sh n E c r) (hf : fz n fi) (hB : BZ fi) (hsc : E.1 (40, 0, 0) = (110, L)) (hL : L < 100000) (hi : i + 5 ≤ L) (hxs : ∀ j, j < L → fi (40, 0, 0) j = xs j) (hop : xs i &&& 31 = 8) (ho1 : xs (i + 1) = nI p) (ho2 : xs (i + 2) = nI o) (hp : p < n) (ho : o < n) (g0 : (lg_cmp ((xm_up fl (30, 0, 0) 0 (if (bI (sp_50 fi p o)) = 0 then (0 : Int64) else (1 : Int64))) (30, 0, 0) 0) (1 : Int64)) = 0) (v659_v5_g0 : (fi (7, p, 0) 3) = 0) (v677_g0 : (fi (21, 11, 0) p) = 0) (v677_g1 : ¬ (fi (21, 14, 0) ((6 * p) + o)) = 0) (K : ∀ u5 u6 u7 : Option xm_V, xm_G E 8 true 145 43 [some (xm_r (40, 0, 0)), some (xm_r (0, 0, 0)), some (xm_r (20, 0, 0)), some (xm_r (30, 0, 0)), some (xm_i (nI (i + 5))), u5, u6, u7] [] (c, (xm_up fi (20, 0, 0) 0 (0 : Int32)), (xm_up fl (30, 0, 0) 0 (if (bI (sp_50 fi p o)) = 0 then (0 : Int64) else (1 : Int64))), r) R) : ∀ u5 u6 u7 : Option xm_V, xm_G E 8 true 145 43 [some (xm_r (40, 0, 0)), some (xm_r (0, 0, 0)), some (xm_r (20, 0, 0)), some (xm_r (30, 0, 0)), some (xm_i (nI i)), u5, u6, u7] [] (c, fi, fl, r) R := by
  have hn := sh_n hs
  intro u5 u6 u7
  refine pg_145_43 rfl ?_
  refine pg_145_45 rfl ?_
  refine pg_145_46 (t := 110) (n := L) (Or.inl hsc) ?_
  refine pg_145_47 ?_
  refine pg_145_48 ?_
  refine pg_145_49 (fun hc => absurd hc (lw_go hi hL)) (fun _ => ?_)
  refine pg_145_52 rfl ?_
  refine pg_145_53 rfl ?_
  refine pg_145_55 (n := L) (Or.inr hsc) (i := i) rfl (by omega) hL ?_
  refine go_top (y := xs i) (((kp_re [2000] fi) (40, 0, 0) _ rfl).trans (hxs _ (by omega))) ?_
  refine pg_145_56 ?_
  refine pg_145_58 ?_
  refine go_top (y := (8 : Int32)) hop ?_
  refine pg_145_59 (off := 586) (t := 645) (by decide) (by decide) ?_
  refine pg_145_645 rfl ?_
  refine pg_145_646 rfl ?_
  refine pg_145_647 rfl ?_
  refine pg_145_649 ?_
  refine pg_145_650 ?_
  refine go_top (y := nI (i + 1)) (nx_add rfl (rfl : (1 : Int32) = nI 1)) ?_
  refine pg_145_651 (n := L) (Or.inr hsc) (i := (i + 1)) rfl (by omega) hL ?_
  refine go_top (y := xs (i + 1)) (((kp_re [2000] fi) (40, 0, 0) _ rfl).trans (hxs _ (by omega))) ?_
  refine go_top (y := nI p) ho1 ?_
  refine pg_145_652 rfl ?_
  refine pg_145_653 rfl ?_
  refine pg_145_655 ?_
  refine pg_145_656 ?_
  refine go_top (y := nI (i + 2)) (nx_add rfl (rfl : (2 : Int32) = nI 2)) ?_
  refine pg_145_657 (n := L) (Or.inr hsc) (i := (i + 2)) rfl (by omega) hL ?_
  refine go_top (y := xs (i + 2)) (((kp_re [2000] fi) (40, 0, 0) _ rfl).trans (hxs _ (by omega))) ?_
  refine go_top (y := nI o) ho2 ?_
  refine pg_145_658 rfl ?_
  refine pg_145_659 (Nat.le_of_ble_eq_true rfl) (ct_134v0 (p := p) (o := o) hs (by omega) (by omega) v659_v5_g0) ?_
  refine pg_145_662 (lv' := [some (xm_r (40, 0, 0)), some (xm_r (0, 0, 0)), some (xm_r (20, 0, 0)), some (xm_r (30, 0, 0)), some (xm_i (nI i)), some (xm_i (0 : Int32)), u6, u7]) rfl ?_
  refine pg_145_664 rfl ?_
  refine pg_145_665 rfl ?_
  refine pg_145_666 rfl ?_
  refine pg_145_668 ?_
  refine pg_145_669 ?_
  refine go_top (y := nI (i + 1)) (nx_add rfl (rfl : (1 : Int32) = nI 1)) ?_
  refine pg_145_670 (n := L) (Or.inr hsc) (i := (i + 1)) rfl (by omega) hL ?_
  refine go_top (y := xs (i + 1)) (((kp_re [2000] fi) (40, 0, 0) _ rfl).trans (hxs _ (by omega))) ?_
  refine go_top (y := nI p) ho1 ?_
  refine pg_145_671 rfl ?_
  refine pg_145_672 rfl ?_
  refine pg_145_674 ?_
  refine pg_145_675 ?_
  refine go_top (y := nI (i + 2)) (nx_add rfl (rfl : (2 : Int32) = nI 2)) ?_
  refine pg_145_676 (n := L) (Or.inr hsc) (i := (i + 2)) rfl (by omega) hL ?_
  refine go_top (y := xs (i + 2)) (((kp_re [2000] fi) (40, 0, 0) _ rfl).trans (hxs _ (by omega))) ?_
  refine go_top (y := nI o) ho2 ?_
  refine pg_145_677 (sk20 hs) (Nat.le_of_ble_eq_true rfl) (ct_106v1 (p := p) (o := o) hs (by omega) (by omega) (fz_kp hf (kp_re [2000] fi) rfl rfl rfl) v677_g0 v677_g1) ?_
  refine pg_145_680 (lv' := [some (xm_r (40, 0, 0)), some (xm_r (0, 0, 0)), some (xm_r (20, 0, 0)), some (xm_r (30, 0, 0)), some (xm_i (nI i)), some (xm_i (0 : Int32)), some (xm_i (1 : Int32)), u7]) rfl ?_
  refine pg_145_682 rfl ?_
  refine pg_145_683 (sk20 hs) (Nat.le_of_ble_eq_true rfl) (ct_69  hs) ?_
  refine go_top (y := (0 : Int32)) (by unfold sp_69; simp [xm_up]) ?_
  refine pg_145_686 rfl ?_
  refine pg_145_688 (fun _ => ?_) (fun hc => absurd (by decide) hc)
  refine pg_145_693 rfl ?_
  refine pg_145_695 (fun hc => absurd (by decide) hc) (fun _ => ?_)
  refine pg_145_698 rfl ?_
  refine pg_145_699 ?_
  refine pg_145_700 (sk30 hs) (i := 0) (rfl : (0 : Int32) = nI 0) (by omega) (by omega) ?_
  refine pg_145_701 rfl ?_
  refine pg_145_703 (fun hc => absurd hc (by decide)) (fun _ => ?_)
  refine pg_145_706 ?_
  refine pg_145_707 ?_
  refine pg_145_711 ?_
  refine pg_145_712 (fun _ => ?_) (fun hc => absurd g0 hc)
  refine pg_145_717 ?_
  refine pg_145_1274 (y := (nI (i + 5))) (lv' := [some (xm_r (40, 0, 0)), some (xm_r (0, 0, 0)), some (xm_r (20, 0, 0)), some (xm_r (30, 0, 0)), some (xm_i (nI (i + 5))), some (xm_i (0 : Int32)), some (xm_i (1 : Int32)), u7]) rfl (nI_add i 5) rfl ?_
  refine pg_145_1277 ?_
  exact K _ _ _
theorem lw_8_v2 {n : Nat} {E : xm_E} {c : Nat × Nat} {fi : FI} {fl : FL} {r : xm_I → Nat → Option xm_I} {L i : Nat} {xs : Nat → Int32} {o : Nat} {p : Nat} {R : xm_O} (hs : sh n E c r) (hf : fz n fi) (hB : BZ fi) (hsc : E.1 (40, 0, 0) = (110, L)) (hL : L < 100000) (hi : i + 5 ≤ L) (hxs : ∀ j, j < L → fi (40, 0, 0) j = xs j) (hop : xs i &&& 31 = 8) (ho1 : xs (i + 1) = nI p) (ho2 : xs (i + 2) = nI o) (hp : p < n) (ho : o < n) (hx : 200 ≤ (E.1 (E.2.2 c.1)).1) (v659_v5_g0 : ¬ (fi (7, p, 0) 3) = 0) (v677_g0 : ¬ (fi (21, 11, 0) p) = 0) (K : ∀ u5 u6 u7 : Option xm_V, xm_G E 8 true 145 43 [some (xm_r (40, 0, 0)), some (xm_r (0, 0, 0)), some (xm_r (20, 0, 0)), some (xm_r (30, 0, 0)), some (xm_i (nI (i + 5))), u5, u6, u7] [] ((c.1 + 1, c.2 + 6), (xm_up fi (20, 0, 0) 0 (2 : Int32)), fl, r) R) : ∀ u5 u6 u7 : Option xm_V, xm_G E 8 true 145 43 [some (xm_r (40, 0, 0)), some (xm_r (0, 0, 0)), some (xm_r (20, 0, 0)), some (xm_r (30, 0, 0)), some (xm_i (nI i)), u5, u6, u7] [] (c, fi, fl, r) R := by
  have hn := sh_n hs
  intro u5 u6 u7
  refine pg_145_43 rfl ?_
  refine pg_145_45 rfl ?_
  refine pg_145_46 (t := 110) (n := L) (Or.inl hsc) ?_
  refine pg_145_47 ?_
  refine pg_145_48 ?_
  refine pg_145_49 (fun hc => absurd hc (lw_go hi hL)) (fun _ => ?_)
  refine pg_145_52 rfl ?_
  refine pg_145_53 rfl ?_
  refine pg_145_55 (n := L) (Or.inr hsc) (i := i) rfl (by omega) hL ?_
  refine go_top (y := xs i) (((kp_re [2000] fi) (40, 0, 0) _ rfl).trans (hxs _ (by omega))) ?_
  refine pg_145_56 ?_
  refine pg_145_58 ?_
  refine go_top (y := (8 : Int32)) hop ?_
  refine pg_145_59 (off := 586) (t := 645) (by decide) (by decide) ?_
  refine pg_145_645 rfl ?_
  refine pg_145_646 rfl ?_
  refine pg_145_647 rfl ?_
  refine pg_145_649 ?_
  refine pg_145_650 ?_
  refine go_top (y := nI (i + 1)) (nx_add rfl (rfl : (1 : Int32) = nI 1)) ?_
  refine pg_145_651 (n := L) (Or.inr hsc) (i := (i + 1)) rfl (by omega) hL ?_
  refine go_top (y := xs (i + 1)) (((kp_re [2000] fi) (40, 0, 0) _ rfl).trans (hxs _ (by omega))) ?_
  refine go_top (y := nI p) ho1 ?_
  refine pg_145_652 rfl ?_
  refine pg_145_653 rfl ?_
  refine pg_145_655 ?_
  refine pg_145_656 ?_
  refine go_top (y := nI (i + 2)) (nx_add rfl (rfl : (2 : Int32) = nI 2)) ?_
  refine pg_145_657 (n := L) (Or.inr hsc) (i := (i + 2)) rfl (by omega) hL ?_
  refine go_top (y := xs (i + 2)) (((kp_re [2000] fi) (40, 0, 0) _ rfl).trans (hxs _ (by omega))) ?_
  refine go_top (y := nI o) ho2 ?_
  refine pg_145_658 rfl ?_
  refine pg_145_659 (Nat.le_of_ble_eq_true rfl) (ct_134v1 (p := p) (o := o) hs (by omega) (by omega) hx v659_v5_g0) ?_
  have hs := sh_up hs
  refine pg_145_662 (lv' := [some (xm_r (40, 0, 0)), some (xm_r (0, 0, 0)), some (xm_r (20, 0, 0)), some (xm_r (30, 0, 0)), some (xm_i (nI i)), some (xm_i (2 : Int32)), u6, u7]) rfl ?_
  refine pg_145_664 rfl ?_
  refine pg_145_665 rfl ?_
  refine pg_145_666 rfl ?_
  refine pg_145_668 ?_
  refine pg_145_669 ?_
  refine go_top (y := nI (i + 1)) (nx_add rfl (rfl : (1 : Int32) = nI 1)) ?_
  refine pg_145_670 (n := L) (Or.inr hsc) (i := (i + 1)) rfl (by omega) hL ?_
  refine go_top (y := xs (i + 1)) (((kp_re [2000] fi) (40, 0, 0) _ rfl).trans (hxs _ (by omega))) ?_
  refine go_top (y := nI p) ho1 ?_
  refine pg_145_671 rfl ?_
  refine pg_145_672 rfl ?_
  refine pg_145_674 ?_
  refine pg_145_675 ?_
  refine go_top (y := nI (i + 2)) (nx_add rfl (rfl : (2 : Int32) = nI 2)) ?_
  refine pg_145_676 (n := L) (Or.inr hsc) (i := (i + 2)) rfl (by omega) hL ?_
  refine go_top (y := xs (i + 2)) (((kp_re [2000] fi) (40, 0, 0) _ rfl).trans (hxs _ (by omega))) ?_
  refine go_top (y := nI o) ho2 ?_
  refine pg_145_677 (sk20 hs) (Nat.le_of_ble_eq_true rfl) (ct_106v2 (p := p) (o := o) hs (by omega) (by omega) (fz_kp hf (kp_re [2000] fi) rfl rfl rfl) v677_g0) ?_
  refine pg_145_680 (lv' := [some (xm_r (40, 0, 0)), some (xm_r (0, 0, 0)), some (xm_r (20, 0, 0)), some (xm_r (30, 0, 0)), some (xm_i (nI i)), some (xm_i (2 : Int32)), some (xm_i (0 : Int32)), u7]) rfl ?_
  refine pg_145_682 rfl ?_
  refine pg_145_683 (sk20 hs) (Nat.le_of_ble_eq_true rfl) (ct_69  hs) ?_
  refine go_top (y := (2 : Int32)) (by unfold sp_69; simp [xm_up]) ?_
  refine pg_145_686 rfl ?_
  refine pg_145_688 (fun _ => ?_) (fun hc => absurd (by decide) hc)
  refine pg_145_693 rfl ?_
  refine pg_145_695 (fun _ => ?_) (fun hc => absurd hc (by decide))
  refine pg_145_717 ?_
  refine pg_145_1274 (y := (nI (i + 5))) (lv' := [some (xm_r (40, 0, 0)), some (xm_r (0, 0, 0)), some (xm_r (20, 0, 0)), some (xm_r (30, 0, 0)), some (xm_i (nI (i + 5))), some (xm_i (2 : Int32)), some (xm_i (0 : Int32)), u7]) rfl (nI_add i 5) rfl ?_
  refine pg_145_1277 ?_
  exact K _ _ _
theorem lw_8_j {n : Nat} {E : xm_E} {c : Nat × Nat} {fi : FI} {fl : FL} {r : xm_I → Nat → Option xm_I} {L i : Nat} {xs : Nat → Int32} {p : Nat} {R : xm_O} (hs : sh n E c r) (hf : fz n fi) (hB : BZ fi) (hsc : E.1 (40, 0, 0) = (110, L)) (hL : L < 100000) (hi : i + 5 ≤ L) (hxs : ∀ j, j < L → fi (40, 0, 0) j = xs j) (hop : xs i &&& 31 = 8) (ho1 : xs (i + 1) = nI p) (hp : p < n) (hx : 200 ≤ (E.1 (E.2.2 c.1)).1) (v659_v5_g0 : (bI (sp_8 n (xs (i + 2)))) = 0) (v677_g0 : ¬ (bI (sp_99 n (xs (i + 2)))) = 0) (K : ∀ u5 u6 u7 : Option xm_V, xm_G E 8 true 145 43 [some (xm_r (40, 0, 0)), some (xm_r (0, 0, 0)), some (xm_r (20, 0, 0)), some (xm_r (30, 0, 0)), some (xm_i (nI (i + 5))), u5, u6, u7] [] ((c.1 + 1, c.2 + 6), (xm_up fi (20, 0, 0) 0 (1 : Int32)), fl, r) R) : ∀ u5 u6 u7 : Option xm_V, xm_G E 8 true 145 43 [some (xm_r (40, 0, 0)), some (xm_r (0, 0, 0)), some (xm_r (20, 0, 0)), some (xm_r (30, 0, 0)), some (xm_i (nI i)), u5, u6, u7] [] (c, fi, fl, r) R := by
  have hn := sh_n hs
  intro u5 u6 u7
  refine pg_145_43 rfl ?_
  refine pg_145_45 rfl ?_
  refine pg_145_46 (t := 110) (n := L) (Or.inl hsc) ?_
  refine pg_145_47 ?_
  refine pg_145_48 ?_
  refine pg_145_49 (fun hc => absurd hc (lw_go hi hL)) (fun _ => ?_)
  refine pg_145_52 rfl ?_
  refine pg_145_53 rfl ?_
  refine pg_145_55 (n := L) (Or.inr hsc) (i := i) rfl (by omega) hL ?_
  refine go_top (y := xs i) (((kp_re [2000] fi) (40, 0, 0) _ rfl).trans (hxs _ (by omega))) ?_
  refine pg_145_56 ?_
  refine pg_145_58 ?_
  refine go_top (y := (8 : Int32)) hop ?_
  refine pg_145_59 (off := 586) (t := 645) (by decide) (by decide) ?_
  refine pg_145_645 rfl ?_
  refine pg_145_646 rfl ?_
  refine pg_145_647 rfl ?_
  refine pg_145_649 ?_
  refine pg_145_650 ?_
  refine go_top (y := nI (i + 1)) (nx_add rfl (rfl : (1 : Int32) = nI 1)) ?_
  refine pg_145_651 (n := L) (Or.inr hsc) (i := (i + 1)) rfl (by omega) hL ?_
  refine go_top (y := xs (i + 1)) (((kp_re [2000] fi) (40, 0, 0) _ rfl).trans (hxs _ (by omega))) ?_
  refine go_top (y := nI p) ho1 ?_
  refine pg_145_652 rfl ?_
  refine pg_145_653 rfl ?_
  refine pg_145_655 ?_
  refine pg_145_656 ?_
  refine go_top (y := nI (i + 2)) (nx_add rfl (rfl : (2 : Int32) = nI 2)) ?_
  refine pg_145_657 (n := L) (Or.inr hsc) (i := (i + 2)) rfl (by omega) hL ?_
  refine go_top (y := xs (i + 2)) (((kp_re [2000] fi) (40, 0, 0) _ rfl).trans (hxs _ (by omega))) ?_
  refine pg_145_658 rfl ?_
  refine pg_145_659 (Nat.le_of_ble_eq_true rfl) (ct_134j0 (p := p) (y := (xs (i + 2))) hs (by omega) hx v659_v5_g0) ?_
  have hs := sh_up hs
  refine pg_145_662 (lv' := [some (xm_r (40, 0, 0)), some (xm_r (0, 0, 0)), some (xm_r (20, 0, 0)), some (xm_r (30, 0, 0)), some (xm_i (nI i)), some (xm_i (1 : Int32)), u6, u7]) rfl ?_
  refine pg_145_664 rfl ?_
  refine pg_145_665 rfl ?_
  refine pg_145_666 rfl ?_
  refine pg_145_668 ?_
  refine pg_145_669 ?_
  refine go_top (y := nI (i + 1)) (nx_add rfl (rfl : (1 : Int32) = nI 1)) ?_
  refine pg_145_670 (n := L) (Or.inr hsc) (i := (i + 1)) rfl (by omega) hL ?_
  refine go_top (y := xs (i + 1)) (((kp_re [2000] fi) (40, 0, 0) _ rfl).trans (hxs _ (by omega))) ?_
  refine go_top (y := nI p) ho1 ?_
  refine pg_145_671 rfl ?_
  refine pg_145_672 rfl ?_
  refine pg_145_674 ?_
  refine pg_145_675 ?_
  refine go_top (y := nI (i + 2)) (nx_add rfl (rfl : (2 : Int32) = nI 2)) ?_
  refine pg_145_676 (n := L) (Or.inr hsc) (i := (i + 2)) rfl (by omega) hL ?_
  refine go_top (y := xs (i + 2)) (((kp_re [2000] fi) (40, 0, 0) _ rfl).trans (hxs _ (by omega))) ?_
  refine pg_145_677 (sk20 hs) (Nat.le_of_ble_eq_true rfl) (ct_106j1 (p := p) (y := (xs (i + 2))) hs (by omega) (fz_kp hf (kp_re [2000] fi) rfl rfl rfl) v677_g0) ?_
  refine pg_145_680 (lv' := [some (xm_r (40, 0, 0)), some (xm_r (0, 0, 0)), some (xm_r (20, 0, 0)), some (xm_r (30, 0, 0)), some (xm_i (nI i)), some (xm_i (1 : Int32)), some (xm_i (0 : Int32)), u7]) rfl ?_
  refine pg_145_682 rfl ?_
  refine pg_145_683 (sk20 hs) (Nat.le_of_ble_eq_true rfl) (ct_69  hs) ?_
  refine go_top (y := (1 : Int32)) (by unfold sp_69; simp [xm_up]) ?_
  refine pg_145_686 rfl ?_
  refine pg_145_688 (fun _ => ?_) (fun hc => absurd (by decide) hc)
  refine pg_145_693 rfl ?_
  refine pg_145_695 (fun _ => ?_) (fun hc => absurd hc (by decide))
  refine pg_145_717 ?_
  refine pg_145_1274 (y := (nI (i + 5))) (lv' := [some (xm_r (40, 0, 0)), some (xm_r (0, 0, 0)), some (xm_r (20, 0, 0)), some (xm_r (30, 0, 0)), some (xm_i (nI (i + 5))), some (xm_i (1 : Int32)), some (xm_i (0 : Int32)), u7]) rfl (nI_add i 5) rfl ?_
  refine pg_145_1277 ?_
  exact K _ _ _
theorem lw_8_i {n : Nat} {E : xm_E} {c : Nat × Nat} {fi : FI} {fl : FL} {r : xm_I → Nat → Option xm_I} {L i : Nat} {xs : Nat → Int32} {R : xm_O} (hs : sh n E c r) (hf : fz n fi) (hB : BZ fi) (hsc : E.1 (40, 0, 0) = (110, L)) (hL : L < 100000) (hi : i + 5 ≤ L) (hxs : ∀ j, j < L → fi (40, 0, 0) j = xs j) (hop : xs i &&& 31 = 8) (hx : 200 ≤ (E.1 (E.2.2 c.1)).1) (v659_v5_g0 : (bI (sp_8 n (xs (i + 1)))) = 0) (v677_g0 : ¬ (bI (sp_99 n (xs (i + 1)))) = 0) (K : ∀ u5 u6 u7 : Option xm_V, xm_G E 8 true 145 43 [some (xm_r (40, 0, 0)), some (xm_r (0, 0, 0)), some (xm_r (20, 0, 0)), some (xm_r (30, 0, 0)), some (xm_i (nI (i + 5))), u5, u6, u7] [] ((c.1 + 1, c.2 + 6), (xm_up fi (20, 0, 0) 0 (1 : Int32)), fl, r) R) : ∀ u5 u6 u7 : Option xm_V, xm_G E 8 true 145 43 [some (xm_r (40, 0, 0)), some (xm_r (0, 0, 0)), some (xm_r (20, 0, 0)), some (xm_r (30, 0, 0)), some (xm_i (nI i)), u5, u6, u7] [] (c, fi, fl, r) R := by
  have hn := sh_n hs
  intro u5 u6 u7
  refine pg_145_43 rfl ?_
  refine pg_145_45 rfl ?_
  refine pg_145_46 (t := 110) (n := L) (Or.inl hsc) ?_
  refine pg_145_47 ?_
  refine pg_145_48 ?_
  refine pg_145_49 (fun hc => absurd hc (lw_go hi hL)) (fun _ => ?_)
  refine pg_145_52 rfl ?_
  refine pg_145_53 rfl ?_
  refine pg_145_55 (n := L) (Or.inr hsc) (i := i) rfl (by omega) hL ?_
  refine go_top (y := xs i) (((kp_re [2000] fi) (40, 0, 0) _ rfl).trans (hxs _ (by omega))) ?_
  refine pg_145_56 ?_
  refine pg_145_58 ?_
  refine go_top (y := (8 : Int32)) hop ?_
  refine pg_145_59 (off := 586) (t := 645) (by decide) (by decide) ?_
  refine pg_145_645 rfl ?_
  refine pg_145_646 rfl ?_
  refine pg_145_647 rfl ?_
  refine pg_145_649 ?_
  refine pg_145_650 ?_
  refine go_top (y := nI (i + 1)) (nx_add rfl (rfl : (1 : Int32) = nI 1)) ?_
  refine pg_145_651 (n := L) (Or.inr hsc) (i := (i + 1)) rfl (by omega) hL ?_
  refine go_top (y := xs (i + 1)) (((kp_re [2000] fi) (40, 0, 0) _ rfl).trans (hxs _ (by omega))) ?_
  refine pg_145_652 rfl ?_
  refine pg_145_653 rfl ?_
  refine pg_145_655 ?_
  refine pg_145_656 ?_
  refine go_top (y := nI (i + 2)) (nx_add rfl (rfl : (2 : Int32) = nI 2)) ?_
  refine pg_145_657 (n := L) (Or.inr hsc) (i := (i + 2)) rfl (by omega) hL ?_
  refine go_top (y := xs (i + 2)) (((kp_re [2000] fi) (40, 0, 0) _ rfl).trans (hxs _ (by omega))) ?_
  refine pg_145_658 rfl ?_
  refine pg_145_659 (Nat.le_of_ble_eq_true rfl) (ct_134i0 (x := (xs (i + 1))) (y := (xs (i + 2))) hs hx v659_v5_g0) ?_
  have hs := sh_up hs
  refine pg_145_662 (lv' := [some (xm_r (40, 0, 0)), some (xm_r (0, 0, 0)), some (xm_r (20, 0, 0)), some (xm_r (30, 0, 0)), some (xm_i (nI i)), some (xm_i (1 : Int32)), u6, u7]) rfl ?_
  refine pg_145_664 rfl ?_
  refine pg_145_665 rfl ?_
  refine pg_145_666 rfl ?_
  refine pg_145_668 ?_
  refine pg_145_669 ?_
  refine go_top (y := nI (i + 1)) (nx_add rfl (rfl : (1 : Int32) = nI 1)) ?_
  refine pg_145_670 (n := L) (Or.inr hsc) (i := (i + 1)) rfl (by omega) hL ?_
  refine go_top (y := xs (i + 1)) (((kp_re [2000] fi) (40, 0, 0) _ rfl).trans (hxs _ (by omega))) ?_
  refine pg_145_671 rfl ?_
  refine pg_145_672 rfl ?_
  refine pg_145_674 ?_
  refine pg_145_675 ?_
  refine go_top (y := nI (i + 2)) (nx_add rfl (rfl : (2 : Int32) = nI 2)) ?_
  refine pg_145_676 (n := L) (Or.inr hsc) (i := (i + 2)) rfl (by omega) hL ?_
  refine go_top (y := xs (i + 2)) (((kp_re [2000] fi) (40, 0, 0) _ rfl).trans (hxs _ (by omega))) ?_
  refine pg_145_677 (sk20 hs) (Nat.le_of_ble_eq_true rfl) (ct_106i1 (x := (xs (i + 1))) (y := (xs (i + 2))) hs (fz_kp hf (kp_re [2000] fi) rfl rfl rfl) v677_g0) ?_
  refine pg_145_680 (lv' := [some (xm_r (40, 0, 0)), some (xm_r (0, 0, 0)), some (xm_r (20, 0, 0)), some (xm_r (30, 0, 0)), some (xm_i (nI i)), some (xm_i (1 : Int32)), some (xm_i (0 : Int32)), u7]) rfl ?_
  refine pg_145_682 rfl ?_
  refine pg_145_683 (sk20 hs) (Nat.le_of_ble_eq_true rfl) (ct_69  hs) ?_
  refine go_top (y := (1 : Int32)) (by unfold sp_69; simp [xm_up]) ?_
  refine pg_145_686 rfl ?_
  refine pg_145_688 (fun _ => ?_) (fun hc => absurd (by decide) hc)
  refine pg_145_693 rfl ?_
  refine pg_145_695 (fun _ => ?_) (fun hc => absurd hc (by decide))
  refine pg_145_717 ?_
  refine pg_145_1274 (y := (nI (i + 5))) (lv' := [some (xm_r (40, 0, 0)), some (xm_r (0, 0, 0)), some (xm_r (20, 0, 0)), some (xm_r (30, 0, 0)), some (xm_i (nI (i + 5))), some (xm_i (1 : Int32)), some (xm_i (0 : Int32)), u7]) rfl (nI_add i 5) rfl ?_
  refine pg_145_1277 ?_
  exact K _ _ _
theorem lw_9_v0 {n : Nat} {E : xm_E} {c : Nat × Nat} {fi : FI} {fl : FL} {r : xm_I → Nat → Option xm_I} {L i : Nat} {xs : Nat → Int32} {o : Nat} {p : Nat} {R : xm_O} (hs : sh n E c r) (hf : fz n fi) (hB : BZ fi) (hsc : E.1 (40, 0, 0) = (110, L)) (hL : L < 100000) (hi : i + 5 ≤ L) (hxs : ∀ j, j < L → fi (40, 0, 0) j = xs j) (hop : xs i &&& 31 = 9) (ho1 : xs (i + 1) = nI p) (ho2 : xs (i + 2) = nI o) (hp : p < n) (ho : o < n) (g0 : (lg_cmp ((xm_up fl (30, 0, 0) 0 ((sp_54 fi p o).toInt64)) (30, 0, 0) 0) ((fi (21, 15, 0) ((6 * p) + o)).toInt64)) = 0) (v734_v5_g0 : (fi (7, p, 0) 3) = 0) (v752_g0 : (fi (21, 11, 0) p) = 0) (K : ∀ u5 u6 u7 : Option xm_V, xm_G E 8 true 145 43 [some (xm_r (40, 0, 0)), some (xm_r (0, 0, 0)), some (xm_r (20, 0, 0)), some (xm_r (30, 0, 0)), some (xm_i (nI (i + 5))), u5, u6, u7] [] (c, (xm_up fi (20, 0, 0) 0 (0 : Int32)), (xm_up fl (30, 0, 0) 0 ((sp_54 fi p o).toInt64)), r) R) : ∀ u5 u6 u7 : Option xm_V, xm_G E 8 true 145 43 [some (xm_r (40, 0, 0)), some (xm_r (0, 0, 0)), some (xm_r (20, 0, 0)), some (xm_r (30, 0, 0)), some (xm_i (nI i)), u5, u6, u7] [] (c, fi, fl, r) R := by
  have hn := sh_n hs
  intro u5 u6 u7
  refine pg_145_43 rfl ?_
  refine pg_145_45 rfl ?_
  refine pg_145_46 (t := 110) (n := L) (Or.inl hsc) ?_
  refine pg_145_47 ?_
  refine pg_145_48 ?_
  refine pg_145_49 (fun hc => absurd hc (lw_go hi hL)) (fun _ => ?_)
  refine pg_145_52 rfl ?_
  refine pg_145_53 rfl ?_
  refine pg_145_55 (n := L) (Or.inr hsc) (i := i) rfl (by omega) hL ?_
  refine go_top (y := xs i) (((kp_re [2000] fi) (40, 0, 0) _ rfl).trans (hxs _ (by omega))) ?_
  refine pg_145_56 ?_
  refine pg_145_58 ?_
  refine go_top (y := (9 : Int32)) hop ?_
  refine pg_145_59 (off := 661) (t := 720) (by decide) (by decide) ?_
  refine pg_145_720 rfl ?_
  refine pg_145_721 rfl ?_
  refine pg_145_722 rfl ?_
  refine pg_145_724 ?_
  refine pg_145_725 ?_
  refine go_top (y := nI (i + 1)) (nx_add rfl (rfl : (1 : Int32) = nI 1)) ?_
  refine pg_145_726 (n := L) (Or.inr hsc) (i := (i + 1)) rfl (by omega) hL ?_
  refine go_top (y := xs (i + 1)) (((kp_re [2000] fi) (40, 0, 0) _ rfl).trans (hxs _ (by omega))) ?_
  refine go_top (y := nI p) ho1 ?_
  refine pg_145_727 rfl ?_
  refine pg_145_728 rfl ?_
  refine pg_145_730 ?_
  refine pg_145_731 ?_
  refine go_top (y := nI (i + 2)) (nx_add rfl (rfl : (2 : Int32) = nI 2)) ?_
  refine pg_145_732 (n := L) (Or.inr hsc) (i := (i + 2)) rfl (by omega) hL ?_
  refine go_top (y := xs (i + 2)) (((kp_re [2000] fi) (40, 0, 0) _ rfl).trans (hxs _ (by omega))) ?_
  refine go_top (y := nI o) ho2 ?_
  refine pg_145_733 rfl ?_
  refine pg_145_734 (Nat.le_of_ble_eq_true rfl) (ct_135v0 (p := p) (o := o) hs (by omega) (by omega) v734_v5_g0) ?_
  refine pg_145_737 (lv' := [some (xm_r (40, 0, 0)), some (xm_r (0, 0, 0)), some (xm_r (20, 0, 0)), some (xm_r (30, 0, 0)), some (xm_i (nI i)), some (xm_i (0 : Int32)), u6, u7]) rfl ?_
  refine pg_145_739 rfl ?_
  refine pg_145_740 rfl ?_
  refine pg_145_741 rfl ?_
  refine pg_145_743 ?_
  refine pg_145_744 ?_
  refine go_top (y := nI (i + 1)) (nx_add rfl (rfl : (1 : Int32) = nI 1)) ?_
  refine pg_145_745 (n := L) (Or.inr hsc) (i := (i + 1)) rfl (by omega) hL ?_
  refine go_top (y := xs (i + 1)) (((kp_re [2000] fi) (40, 0, 0) _ rfl).trans (hxs _ (by omega))) ?_
  refine go_top (y := nI p) ho1 ?_
  refine pg_145_746 rfl ?_
  refine pg_145_747 rfl ?_
  refine pg_145_749 ?_
  refine pg_145_750 ?_
  refine go_top (y := nI (i + 2)) (nx_add rfl (rfl : (2 : Int32) = nI 2)) ?_
  refine pg_145_751 (n := L) (Or.inr hsc) (i := (i + 2)) rfl (by omega) hL ?_
  refine go_top (y := xs (i + 2)) (((kp_re [2000] fi) (40, 0, 0) _ rfl).trans (hxs _ (by omega))) ?_
  refine go_top (y := nI o) ho2 ?_
  refine pg_145_752 (sk20 hs) (Nat.le_of_ble_eq_true rfl) (ct_107v0 (p := p) (o := o) hs (by omega) (by omega) (fz_kp hf (kp_re [2000] fi) rfl rfl rfl) v752_g0) ?_
  refine pg_145_755 (lv' := [some (xm_r (40, 0, 0)), some (xm_r (0, 0, 0)), some (xm_r (20, 0, 0)), some (xm_r (30, 0, 0)), some (xm_i (nI i)), some (xm_i (0 : Int32)), some (xm_i (fi (21, 15, 0) ((6 * p) + o))), u7]) rfl ?_
  refine pg_145_757 rfl ?_
  refine pg_145_758 (sk20 hs) (Nat.le_of_ble_eq_true rfl) (ct_69  hs) ?_
  refine go_top (y := (0 : Int32)) (by unfold sp_69; simp [xm_up]) ?_
  refine pg_145_761 rfl ?_
  refine pg_145_763 (fun _ => ?_) (fun hc => absurd (by decide) hc)
  refine pg_145_768 rfl ?_
  refine pg_145_770 (fun hc => absurd (by decide) hc) (fun _ => ?_)
  refine pg_145_773 rfl ?_
  refine pg_145_774 ?_
  refine pg_145_775 (sk30 hs) (i := 0) (rfl : (0 : Int32) = nI 0) (by omega) (by omega) ?_
  refine pg_145_776 rfl ?_
  refine pg_145_778 ?_
  refine pg_145_779 ?_
  refine pg_145_780 (fun _ => ?_) (fun hc => absurd g0 hc)
  refine pg_145_785 ?_
  refine pg_145_1274 (y := (nI (i + 5))) (lv' := [some (xm_r (40, 0, 0)), some (xm_r (0, 0, 0)), some (xm_r (20, 0, 0)), some (xm_r (30, 0, 0)), some (xm_i (nI (i + 5))), some (xm_i (0 : Int32)), some (xm_i (fi (21, 15, 0) ((6 * p) + o))), u7]) rfl (nI_add i 5) rfl ?_
  refine pg_145_1277 ?_
  exact K _ _ _
theorem lw_9_v1 {n : Nat} {E : xm_E} {c : Nat × Nat} {fi : FI} {fl : FL} {r : xm_I → Nat → Option xm_I} {L i : Nat} {xs : Nat → Int32} {o : Nat} {p : Nat} {R : xm_O} (hs : sh n E c r) (hf : fz n fi) (hB : BZ fi) (hsc : E.1 (40, 0, 0) = (110, L)) (hL : L < 100000) (hi : i + 5 ≤ L) (hxs : ∀ j, j < L → fi (40, 0, 0) j = xs j) (hop : xs i &&& 31 = 9) (ho1 : xs (i + 1) = nI p) (ho2 : xs (i + 2) = nI o) (hp : p < n) (ho : o < n) (hx : 200 ≤ (E.1 (E.2.2 c.1)).1) (v734_v5_g0 : ¬ (fi (7, p, 0) 3) = 0) (v752_g0 : ¬ (fi (21, 11, 0) p) = 0) (K : ∀ u5 u6 u7 : Option xm_V, xm_G E 8 true 145 43 [some (xm_r (40, 0, 0)), some (xm_r (0, 0, 0)), some (xm_r (20, 0, 0)), some (xm_r (30, 0, 0)), some (xm_i (nI (i + 5))), u5, u6, u7] [] ((c.1 + 1, c.2 + 6), (xm_up fi (20, 0, 0) 0 (2 : Int32)), fl, r) R) : ∀ u5 u6 u7 : Option xm_V, xm_G E 8 true 145 43 [some (xm_r (40, 0, 0)), some (xm_r (0, 0, 0)), some (xm_r (20, 0, 0)), some (xm_r (30, 0, 0)), some (xm_i (nI i)), u5, u6, u7] [] (c, fi, fl, r) R := by
  have hn := sh_n hs
  intro u5 u6 u7
  refine pg_145_43 rfl ?_
  refine pg_145_45 rfl ?_
  refine pg_145_46 (t := 110) (n := L) (Or.inl hsc) ?_
  refine pg_145_47 ?_
  refine pg_145_48 ?_
  refine pg_145_49 (fun hc => absurd hc (lw_go hi hL)) (fun _ => ?_)
  refine pg_145_52 rfl ?_
  refine pg_145_53 rfl ?_
  refine pg_145_55 (n := L) (Or.inr hsc) (i := i) rfl (by omega) hL ?_
  refine go_top (y := xs i) (((kp_re [2000] fi) (40, 0, 0) _ rfl).trans (hxs _ (by omega))) ?_
  refine pg_145_56 ?_
  refine pg_145_58 ?_
  refine go_top (y := (9 : Int32)) hop ?_
  refine pg_145_59 (off := 661) (t := 720) (by decide) (by decide) ?_
  refine pg_145_720 rfl ?_
  refine pg_145_721 rfl ?_
  refine pg_145_722 rfl ?_
  refine pg_145_724 ?_
  refine pg_145_725 ?_
  refine go_top (y := nI (i + 1)) (nx_add rfl (rfl : (1 : Int32) = nI 1)) ?_
  refine pg_145_726 (n := L) (Or.inr hsc) (i := (i + 1)) rfl (by omega) hL ?_
  refine go_top (y := xs (i + 1)) (((kp_re [2000] fi) (40, 0, 0) _ rfl).trans (hxs _ (by omega))) ?_
  refine go_top (y := nI p) ho1 ?_
  refine pg_145_727 rfl ?_
  refine pg_145_728 rfl ?_
  refine pg_145_730 ?_
  refine pg_145_731 ?_
  refine go_top (y := nI (i + 2)) (nx_add rfl (rfl : (2 : Int32) = nI 2)) ?_
  refine pg_145_732 (n := L) (Or.inr hsc) (i := (i + 2)) rfl (by omega) hL ?_
  refine go_top (y := xs (i + 2)) (((kp_re [2000] fi) (40, 0, 0) _ rfl).trans (hxs _ (by omega))) ?_
  refine go_top (y := nI o) ho2 ?_
  refine pg_145_733 rfl ?_
  refine pg_145_734 (Nat.le_of_ble_eq_true rfl) (ct_135v1 (p := p) (o := o) hs (by omega) (by omega) hx v734_v5_g0) ?_
  have hs := sh_up hs
  refine pg_145_737 (lv' := [some (xm_r (40, 0, 0)), some (xm_r (0, 0, 0)), some (xm_r (20, 0, 0)), some (xm_r (30, 0, 0)), some (xm_i (nI i)), some (xm_i (2 : Int32)), u6, u7]) rfl ?_
  refine pg_145_739 rfl ?_
  refine pg_145_740 rfl ?_
  refine pg_145_741 rfl ?_
  refine pg_145_743 ?_
  refine pg_145_744 ?_
  refine go_top (y := nI (i + 1)) (nx_add rfl (rfl : (1 : Int32) = nI 1)) ?_
  refine pg_145_745 (n := L) (Or.inr hsc) (i := (i + 1)) rfl (by omega) hL ?_
  refine go_top (y := xs (i + 1)) (((kp_re [2000] fi) (40, 0, 0) _ rfl).trans (hxs _ (by omega))) ?_
  refine go_top (y := nI p) ho1 ?_
  refine pg_145_746 rfl ?_
  refine pg_145_747 rfl ?_
  refine pg_145_749 ?_
  refine pg_145_750 ?_
  refine go_top (y := nI (i + 2)) (nx_add rfl (rfl : (2 : Int32) = nI 2)) ?_
  refine pg_145_751 (n := L) (Or.inr hsc) (i := (i + 2)) rfl (by omega) hL ?_
  refine go_top (y := xs (i + 2)) (((kp_re [2000] fi) (40, 0, 0) _ rfl).trans (hxs _ (by omega))) ?_
  refine go_top (y := nI o) ho2 ?_
  refine pg_145_752 (sk20 hs) (Nat.le_of_ble_eq_true rfl) (ct_107v1 (p := p) (o := o) hs (by omega) (by omega) (fz_kp hf (kp_re [2000] fi) rfl rfl rfl) v752_g0) ?_
  refine pg_145_755 (lv' := [some (xm_r (40, 0, 0)), some (xm_r (0, 0, 0)), some (xm_r (20, 0, 0)), some (xm_r (30, 0, 0)), some (xm_i (nI i)), some (xm_i (2 : Int32)), some (xm_i (0 : Int32)), u7]) rfl ?_
  refine pg_145_757 rfl ?_
  refine pg_145_758 (sk20 hs) (Nat.le_of_ble_eq_true rfl) (ct_69  hs) ?_
  refine go_top (y := (2 : Int32)) (by unfold sp_69; simp [xm_up]) ?_
  refine pg_145_761 rfl ?_
  refine pg_145_763 (fun _ => ?_) (fun hc => absurd (by decide) hc)
  refine pg_145_768 rfl ?_
  refine pg_145_770 (fun _ => ?_) (fun hc => absurd hc (by decide))
  refine pg_145_785 ?_
  refine pg_145_1274 (y := (nI (i + 5))) (lv' := [some (xm_r (40, 0, 0)), some (xm_r (0, 0, 0)), some (xm_r (20, 0, 0)), some (xm_r (30, 0, 0)), some (xm_i (nI (i + 5))), some (xm_i (2 : Int32)), some (xm_i (0 : Int32)), u7]) rfl (nI_add i 5) rfl ?_
  refine pg_145_1277 ?_
  exact K _ _ _
theorem lw_9_j {n : Nat} {E : xm_E} {c : Nat × Nat} {fi : FI} {fl : FL} {r : xm_I → Nat → Option xm_I} {L i : Nat} {xs : Nat → Int32} {p : Nat} {R : xm_O} (hs : sh n E c r) (hf : fz n fi) (hB : BZ fi) (hsc : E.1 (40, 0, 0) = (110, L)) (hL : L < 100000) (hi : i + 5 ≤ L) (hxs : ∀ j, j < L → fi (40, 0, 0) j = xs j) (hop : xs i &&& 31 = 9) (ho1 : xs (i + 1) = nI p) (hp : p < n) (hx : 200 ≤ (E.1 (E.2.2 c.1)).1) (v734_v5_g0 : (bI (sp_8 n (xs (i + 2)))) = 0) (v752_g0 : ¬ (bI (sp_99 n (xs (i + 2)))) = 0) (K : ∀ u5 u6 u7 : Option xm_V, xm_G E 8 true 145 43 [some (xm_r (40, 0, 0)), some (xm_r (0, 0, 0)), some (xm_r (20, 0, 0)), some (xm_r (30, 0, 0)), some (xm_i (nI (i + 5))), u5, u6, u7] [] ((c.1 + 1, c.2 + 6), (xm_up fi (20, 0, 0) 0 (1 : Int32)), fl, r) R) : ∀ u5 u6 u7 : Option xm_V, xm_G E 8 true 145 43 [some (xm_r (40, 0, 0)), some (xm_r (0, 0, 0)), some (xm_r (20, 0, 0)), some (xm_r (30, 0, 0)), some (xm_i (nI i)), u5, u6, u7] [] (c, fi, fl, r) R := by
  have hn := sh_n hs
  intro u5 u6 u7
  refine pg_145_43 rfl ?_
  refine pg_145_45 rfl ?_
  refine pg_145_46 (t := 110) (n := L) (Or.inl hsc) ?_
  refine pg_145_47 ?_
  refine pg_145_48 ?_
  refine pg_145_49 (fun hc => absurd hc (lw_go hi hL)) (fun _ => ?_)
  refine pg_145_52 rfl ?_
  refine pg_145_53 rfl ?_
  refine pg_145_55 (n := L) (Or.inr hsc) (i := i) rfl (by omega) hL ?_
  refine go_top (y := xs i) (((kp_re [2000] fi) (40, 0, 0) _ rfl).trans (hxs _ (by omega))) ?_
  refine pg_145_56 ?_
  refine pg_145_58 ?_
  refine go_top (y := (9 : Int32)) hop ?_
  refine pg_145_59 (off := 661) (t := 720) (by decide) (by decide) ?_
  refine pg_145_720 rfl ?_
  refine pg_145_721 rfl ?_
  refine pg_145_722 rfl ?_
  refine pg_145_724 ?_
  refine pg_145_725 ?_
  refine go_top (y := nI (i + 1)) (nx_add rfl (rfl : (1 : Int32) = nI 1)) ?_
  refine pg_145_726 (n := L) (Or.inr hsc) (i := (i + 1)) rfl (by omega) hL ?_
  refine go_top (y := xs (i + 1)) (((kp_re [2000] fi) (40, 0, 0) _ rfl).trans (hxs _ (by omega))) ?_
  refine go_top (y := nI p) ho1 ?_
  refine pg_145_727 rfl ?_
  refine pg_145_728 rfl ?_
  refine pg_145_730 ?_
  refine pg_145_731 ?_
  refine go_top (y := nI (i + 2)) (nx_add rfl (rfl : (2 : Int32) = nI 2)) ?_
  refine pg_145_732 (n := L) (Or.inr hsc) (i := (i + 2)) rfl (by omega) hL ?_
  refine go_top (y := xs (i + 2)) (((kp_re [2000] fi) (40, 0, 0) _ rfl).trans (hxs _ (by omega))) ?_
  refine pg_145_733 rfl ?_
  refine pg_145_734 (Nat.le_of_ble_eq_true rfl) (ct_135j0 (p := p) (y := (xs (i + 2))) hs (by omega) hx v734_v5_g0) ?_
  have hs := sh_up hs
  refine pg_145_737 (lv' := [some (xm_r (40, 0, 0)), some (xm_r (0, 0, 0)), some (xm_r (20, 0, 0)), some (xm_r (30, 0, 0)), some (xm_i (nI i)), some (xm_i (1 : Int32)), u6, u7]) rfl ?_
  refine pg_145_739 rfl ?_
  refine pg_145_740 rfl ?_
  refine pg_145_741 rfl ?_
  refine pg_145_743 ?_
  refine pg_145_744 ?_
  refine go_top (y := nI (i + 1)) (nx_add rfl (rfl : (1 : Int32) = nI 1)) ?_
  refine pg_145_745 (n := L) (Or.inr hsc) (i := (i + 1)) rfl (by omega) hL ?_
  refine go_top (y := xs (i + 1)) (((kp_re [2000] fi) (40, 0, 0) _ rfl).trans (hxs _ (by omega))) ?_
  refine go_top (y := nI p) ho1 ?_
  refine pg_145_746 rfl ?_
  refine pg_145_747 rfl ?_
  refine pg_145_749 ?_
  refine pg_145_750 ?_
  refine go_top (y := nI (i + 2)) (nx_add rfl (rfl : (2 : Int32) = nI 2)) ?_
  refine pg_145_751 (n := L) (Or.inr hsc) (i := (i + 2)) rfl (by omega) hL ?_
  refine go_top (y := xs (i + 2)) (((kp_re [2000] fi) (40, 0, 0) _ rfl).trans (hxs _ (by omega))) ?_
  refine pg_145_752 (sk20 hs) (Nat.le_of_ble_eq_true rfl) (ct_107j1 (p := p) (y := (xs (i + 2))) hs (by omega) (fz_kp hf (kp_re [2000] fi) rfl rfl rfl) v752_g0) ?_
  refine pg_145_755 (lv' := [some (xm_r (40, 0, 0)), some (xm_r (0, 0, 0)), some (xm_r (20, 0, 0)), some (xm_r (30, 0, 0)), some (xm_i (nI i)), some (xm_i (1 : Int32)), some (xm_i (0 : Int32)), u7]) rfl ?_
  refine pg_145_757 rfl ?_
  refine pg_145_758 (sk20 hs) (Nat.le_of_ble_eq_true rfl) (ct_69  hs) ?_
  refine go_top (y := (1 : Int32)) (by unfold sp_69; simp [xm_up]) ?_
  refine pg_145_761 rfl ?_
  refine pg_145_763 (fun _ => ?_) (fun hc => absurd (by decide) hc)
  refine pg_145_768 rfl ?_
  refine pg_145_770 (fun _ => ?_) (fun hc => absurd hc (by decide))
  refine pg_145_785 ?_
  refine pg_145_1274 (y := (nI (i + 5))) (lv' := [some (xm_r (40, 0, 0)), some (xm_r (0, 0, 0)), some (xm_r (20, 0, 0)), some (xm_r (30, 0, 0)), some (xm_i (nI (i + 5))), some (xm_i (1 : Int32)), some (xm_i (0 : Int32)), u7]) rfl (nI_add i 5) rfl ?_
  refine pg_145_1277 ?_
  exact K _ _ _
theorem lw_9_i {n : Nat} {E : xm_E} {c : Nat × Nat} {fi : FI} {fl : FL} {r : xm_I → Nat → Option xm_I} {L i : Nat} {xs : Nat → Int32} {R : xm_O} (hs : sh n E c r) (hf : fz n fi) (hB : BZ fi) (hsc : E.1 (40, 0, 0) = (110, L)) (hL : L < 100000) (hi : i + 5 ≤ L) (hxs : ∀ j, j < L → fi (40, 0, 0) j = xs j) (hop : xs i &&& 31 = 9) (hx : 200 ≤ (E.1 (E.2.2 c.1)).1) (v734_v5_g0 : (bI (sp_8 n (xs (i + 1)))) = 0) (v752_g0 : ¬ (bI (sp_99 n (xs (i + 1)))) = 0) (K : ∀ u5 u6 u7 : Option xm_V, xm_G E 8 true 145 43 [some (xm_r (40, 0, 0)), some (xm_r (0, 0, 0)), some (xm_r (20, 0, 0)), some (xm_r (30, 0, 0)), some (xm_i (nI (i + 5))), u5, u6, u7] [] ((c.1 + 1, c.2 + 6), (xm_up fi (20, 0, 0) 0 (1 : Int32)), fl, r) R) : ∀ u5 u6 u7 : Option xm_V, xm_G E 8 true 145 43 [some (xm_r (40, 0, 0)), some (xm_r (0, 0, 0)), some (xm_r (20, 0, 0)), some (xm_r (30, 0, 0)), some (xm_i (nI i)), u5, u6, u7] [] (c, fi, fl, r) R := by
  have hn := sh_n hs
  intro u5 u6 u7
  refine pg_145_43 rfl ?_
  refine pg_145_45 rfl ?_
  refine pg_145_46 (t := 110) (n := L) (Or.inl hsc) ?_
  refine pg_145_47 ?_
  refine pg_145_48 ?_
  refine pg_145_49 (fun hc => absurd hc (lw_go hi hL)) (fun _ => ?_)
  refine pg_145_52 rfl ?_
  refine pg_145_53 rfl ?_
  refine pg_145_55 (n := L) (Or.inr hsc) (i := i) rfl (by omega) hL ?_
  refine go_top (y := xs i) (((kp_re [2000] fi) (40, 0, 0) _ rfl).trans (hxs _ (by omega))) ?_
  refine pg_145_56 ?_
  refine pg_145_58 ?_
  refine go_top (y := (9 : Int32)) hop ?_
  refine pg_145_59 (off := 661) (t := 720) (by decide) (by decide) ?_
  refine pg_145_720 rfl ?_
  refine pg_145_721 rfl ?_
  refine pg_145_722 rfl ?_
  refine pg_145_724 ?_
  refine pg_145_725 ?_
  refine go_top (y := nI (i + 1)) (nx_add rfl (rfl : (1 : Int32) = nI 1)) ?_
  refine pg_145_726 (n := L) (Or.inr hsc) (i := (i + 1)) rfl (by omega) hL ?_
  refine go_top (y := xs (i + 1)) (((kp_re [2000] fi) (40, 0, 0) _ rfl).trans (hxs _ (by omega))) ?_
  refine pg_145_727 rfl ?_
  refine pg_145_728 rfl ?_
  refine pg_145_730 ?_
  refine pg_145_731 ?_
  refine go_top (y := nI (i + 2)) (nx_add rfl (rfl : (2 : Int32) = nI 2)) ?_
  refine pg_145_732 (n := L) (Or.inr hsc) (i := (i + 2)) rfl (by omega) hL ?_
  refine go_top (y := xs (i + 2)) (((kp_re [2000] fi) (40, 0, 0) _ rfl).trans (hxs _ (by omega))) ?_
  refine pg_145_733 rfl ?_
  refine pg_145_734 (Nat.le_of_ble_eq_true rfl) (ct_135i0 (x := (xs (i + 1))) (y := (xs (i + 2))) hs hx v734_v5_g0) ?_
  have hs := sh_up hs
  refine pg_145_737 (lv' := [some (xm_r (40, 0, 0)), some (xm_r (0, 0, 0)), some (xm_r (20, 0, 0)), some (xm_r (30, 0, 0)), some (xm_i (nI i)), some (xm_i (1 : Int32)), u6, u7]) rfl ?_
  refine pg_145_739 rfl ?_
  refine pg_145_740 rfl ?_
  refine pg_145_741 rfl ?_
  refine pg_145_743 ?_
  refine pg_145_744 ?_
  refine go_top (y := nI (i + 1)) (nx_add rfl (rfl : (1 : Int32) = nI 1)) ?_
  refine pg_145_745 (n := L) (Or.inr hsc) (i := (i + 1)) rfl (by omega) hL ?_
  refine go_top (y := xs (i + 1)) (((kp_re [2000] fi) (40, 0, 0) _ rfl).trans (hxs _ (by omega))) ?_
  refine pg_145_746 rfl ?_
  refine pg_145_747 rfl ?_
  refine pg_145_749 ?_
  refine pg_145_750 ?_
  refine go_top (y := nI (i + 2)) (nx_add rfl (rfl : (2 : Int32) = nI 2)) ?_
  refine pg_145_751 (n := L) (Or.inr hsc) (i := (i + 2)) rfl (by omega) hL ?_
  refine go_top (y := xs (i + 2)) (((kp_re [2000] fi) (40, 0, 0) _ rfl).trans (hxs _ (by omega))) ?_
  refine pg_145_752 (sk20 hs) (Nat.le_of_ble_eq_true rfl) (ct_107i1 (x := (xs (i + 1))) (y := (xs (i + 2))) hs (fz_kp hf (kp_re [2000] fi) rfl rfl rfl) v752_g0) ?_
  refine pg_145_755 (lv' := [some (xm_r (40, 0, 0)), some (xm_r (0, 0, 0)), some (xm_r (20, 0, 0)), some (xm_r (30, 0, 0)), some (xm_i (nI i)), some (xm_i (1 : Int32)), some (xm_i (0 : Int32)), u7]) rfl ?_
  refine pg_145_757 rfl ?_
  refine pg_145_758 (sk20 hs) (Nat.le_of_ble_eq_true rfl) (ct_69  hs) ?_
  refine go_top (y := (1 : Int32)) (by unfold sp_69; simp [xm_up]) ?_
  refine pg_145_761 rfl ?_
  refine pg_145_763 (fun _ => ?_) (fun hc => absurd (by decide) hc)
  refine pg_145_768 rfl ?_
  refine pg_145_770 (fun _ => ?_) (fun hc => absurd hc (by decide))
  refine pg_145_785 ?_
  refine pg_145_1274 (y := (nI (i + 5))) (lv' := [some (xm_r (40, 0, 0)), some (xm_r (0, 0, 0)), some (xm_r (20, 0, 0)), some (xm_r (30, 0, 0)), some (xm_i (nI (i + 5))), some (xm_i (1 : Int32)), some (xm_i (0 : Int32)), u7]) rfl (nI_add i 5) rfl ?_
  refine pg_145_1277 ?_
  exact K _ _ _
theorem lw_10_v0 {n : Nat} {E : xm_E} {c : Nat × Nat} {fi : FI} {fl : FL} {r : xm_I → Nat → Option xm_I} {L i : Nat} {xs : Nat → Int32} {p : Nat} {R : xm_O} (hs : sh n E c r) (hf : fz n fi) (hB : BZ fi) (hsc : E.1 (40, 0, 0) = (110, L)) (hL : L < 100000) (hi : i + 5 ≤ L) (hxs : ∀ j, j < L → fi (40, 0, 0) j = xs j) (hop : xs i &&& 31 = 10) (ho1 : xs (i + 1) = nI p) (hp : p < n) (g0 : (lg_cmp ((xm_up fl (30, 0, 0) 0 ((fi (8, p, 0) 0).toInt64)) (30, 0, 0) 0) ((fi (21, 12, 0) p).toInt64)) = 0) (v796_v4_g0 : (fi (7, p, 0) 3) = 0) (v808_g0 : (fi (21, 11, 0) p) = 0) (K : ∀ u5 u6 u7 : Option xm_V, xm_G E 8 true 145 43 [some (xm_r (40, 0, 0)), some (xm_r (0, 0, 0)), some (xm_r (20, 0, 0)), some (xm_r (30, 0, 0)), some (xm_i (nI (i + 5))), u5, u6, u7] [] (c, (xm_up fi (20, 0, 0) 0 (0 : Int32)), (xm_up fl (30, 0, 0) 0 ((fi (8, p, 0) 0).toInt64)), r) R) : ∀ u5 u6 u7 : Option xm_V, xm_G E 8 true 145 43 [some (xm_r (40, 0, 0)), some (xm_r (0, 0, 0)), some (xm_r (20, 0, 0)), some (xm_r (30, 0, 0)), some (xm_i (nI i)), u5, u6, u7] [] (c, fi, fl, r) R := by
  have hn := sh_n hs
  intro u5 u6 u7
  refine pg_145_43 rfl ?_
  refine pg_145_45 rfl ?_
  refine pg_145_46 (t := 110) (n := L) (Or.inl hsc) ?_
  refine pg_145_47 ?_
  refine pg_145_48 ?_
  refine pg_145_49 (fun hc => absurd hc (lw_go hi hL)) (fun _ => ?_)
  refine pg_145_52 rfl ?_
  refine pg_145_53 rfl ?_
  refine pg_145_55 (n := L) (Or.inr hsc) (i := i) rfl (by omega) hL ?_
  refine go_top (y := xs i) (((kp_re [2000] fi) (40, 0, 0) _ rfl).trans (hxs _ (by omega))) ?_
  refine pg_145_56 ?_
  refine pg_145_58 ?_
  refine go_top (y := (10 : Int32)) hop ?_
  refine pg_145_59 (off := 729) (t := 788) (by decide) (by decide) ?_
  refine pg_145_788 rfl ?_
  refine pg_145_789 rfl ?_
  refine pg_145_790 rfl ?_
  refine pg_145_792 ?_
  refine pg_145_793 ?_
  refine go_top (y := nI (i + 1)) (nx_add rfl (rfl : (1 : Int32) = nI 1)) ?_
  refine pg_145_794 (n := L) (Or.inr hsc) (i := (i + 1)) rfl (by omega) hL ?_
  refine go_top (y := xs (i + 1)) (((kp_re [2000] fi) (40, 0, 0) _ rfl).trans (hxs _ (by omega))) ?_
  refine go_top (y := nI p) ho1 ?_
  refine pg_145_795 rfl ?_
  refine pg_145_796 (Nat.le_of_ble_eq_true rfl) (ct_136v0 (p := p) hs (by omega) v796_v4_g0) ?_
  refine pg_145_799 (lv' := [some (xm_r (40, 0, 0)), some (xm_r (0, 0, 0)), some (xm_r (20, 0, 0)), some (xm_r (30, 0, 0)), some (xm_i (nI i)), some (xm_i (0 : Int32)), u6, u7]) rfl ?_
  refine pg_145_801 rfl ?_
  refine pg_145_802 rfl ?_
  refine pg_145_803 rfl ?_
  refine pg_145_805 ?_
  refine pg_145_806 ?_
  refine go_top (y := nI (i + 1)) (nx_add rfl (rfl : (1 : Int32) = nI 1)) ?_
  refine pg_145_807 (n := L) (Or.inr hsc) (i := (i + 1)) rfl (by omega) hL ?_
  refine go_top (y := xs (i + 1)) (((kp_re [2000] fi) (40, 0, 0) _ rfl).trans (hxs _ (by omega))) ?_
  refine go_top (y := nI p) ho1 ?_
  refine pg_145_808 (sk20 hs) (Nat.le_of_ble_eq_true rfl) (ct_108v0 (p := p) hs (by omega) (fz_kp hf (kp_re [2000] fi) rfl rfl rfl) v808_g0) ?_
  refine pg_145_811 (lv' := [some (xm_r (40, 0, 0)), some (xm_r (0, 0, 0)), some (xm_r (20, 0, 0)), some (xm_r (30, 0, 0)), some (xm_i (nI i)), some (xm_i (0 : Int32)), some (xm_i (fi (21, 12, 0) p)), u7]) rfl ?_
  refine pg_145_813 rfl ?_
  refine pg_145_814 (sk20 hs) (Nat.le_of_ble_eq_true rfl) (ct_69  hs) ?_
  refine go_top (y := (0 : Int32)) (by unfold sp_69; simp [xm_up]) ?_
  refine pg_145_817 rfl ?_
  refine pg_145_819 (fun _ => ?_) (fun hc => absurd (by decide) hc)
  refine pg_145_824 rfl ?_
  refine pg_145_826 (fun hc => absurd (by decide) hc) (fun _ => ?_)
  refine pg_145_829 rfl ?_
  refine pg_145_830 ?_
  refine pg_145_831 (sk30 hs) (i := 0) (rfl : (0 : Int32) = nI 0) (by omega) (by omega) ?_
  refine pg_145_832 rfl ?_
  refine pg_145_834 ?_
  refine pg_145_835 ?_
  refine pg_145_836 (fun _ => ?_) (fun hc => absurd g0 hc)
  refine pg_145_841 ?_
  refine pg_145_1274 (y := (nI (i + 5))) (lv' := [some (xm_r (40, 0, 0)), some (xm_r (0, 0, 0)), some (xm_r (20, 0, 0)), some (xm_r (30, 0, 0)), some (xm_i (nI (i + 5))), some (xm_i (0 : Int32)), some (xm_i (fi (21, 12, 0) p)), u7]) rfl (nI_add i 5) rfl ?_
  refine pg_145_1277 ?_
  exact K _ _ _
theorem lw_10_v1 {n : Nat} {E : xm_E} {c : Nat × Nat} {fi : FI} {fl : FL} {r : xm_I → Nat → Option xm_I} {L i : Nat} {xs : Nat → Int32} {p : Nat} {R : xm_O} (hs : sh n E c r) (hf : fz n fi) (hB : BZ fi) (hsc : E.1 (40, 0, 0) = (110, L)) (hL : L < 100000) (hi : i + 5 ≤ L) (hxs : ∀ j, j < L → fi (40, 0, 0) j = xs j) (hop : xs i &&& 31 = 10) (ho1 : xs (i + 1) = nI p) (hp : p < n) (hx : 200 ≤ (E.1 (E.2.2 c.1)).1) (v796_v4_g0 : ¬ (fi (7, p, 0) 3) = 0) (v808_g0 : ¬ (fi (21, 11, 0) p) = 0) (K : ∀ u5 u6 u7 : Option xm_V, xm_G E 8 true 145 43 [some (xm_r (40, 0, 0)), some (xm_r (0, 0, 0)), some (xm_r (20, 0, 0)), some (xm_r (30, 0, 0)), some (xm_i (nI (i + 5))), u5, u6, u7] [] ((c.1 + 1, c.2 + 6), (xm_up fi (20, 0, 0) 0 (2 : Int32)), fl, r) R) : ∀ u5 u6 u7 : Option xm_V, xm_G E 8 true 145 43 [some (xm_r (40, 0, 0)), some (xm_r (0, 0, 0)), some (xm_r (20, 0, 0)), some (xm_r (30, 0, 0)), some (xm_i (nI i)), u5, u6, u7] [] (c, fi, fl, r) R := by
  have hn := sh_n hs
  intro u5 u6 u7
  refine pg_145_43 rfl ?_
  refine pg_145_45 rfl ?_
  refine pg_145_46 (t := 110) (n := L) (Or.inl hsc) ?_
  refine pg_145_47 ?_
  refine pg_145_48 ?_
  refine pg_145_49 (fun hc => absurd hc (lw_go hi hL)) (fun _ => ?_)
  refine pg_145_52 rfl ?_
  refine pg_145_53 rfl ?_
  refine pg_145_55 (n := L) (Or.inr hsc) (i := i) rfl (by omega) hL ?_
  refine go_top (y := xs i) (((kp_re [2000] fi) (40, 0, 0) _ rfl).trans (hxs _ (by omega))) ?_
  refine pg_145_56 ?_
  refine pg_145_58 ?_
  refine go_top (y := (10 : Int32)) hop ?_
  refine pg_145_59 (off := 729) (t := 788) (by decide) (by decide) ?_
  refine pg_145_788 rfl ?_
  refine pg_145_789 rfl ?_
  refine pg_145_790 rfl ?_
  refine pg_145_792 ?_
  refine pg_145_793 ?_
  refine go_top (y := nI (i + 1)) (nx_add rfl (rfl : (1 : Int32) = nI 1)) ?_
  refine pg_145_794 (n := L) (Or.inr hsc) (i := (i + 1)) rfl (by omega) hL ?_
  refine go_top (y := xs (i + 1)) (((kp_re [2000] fi) (40, 0, 0) _ rfl).trans (hxs _ (by omega))) ?_
  refine go_top (y := nI p) ho1 ?_
  refine pg_145_795 rfl ?_
  refine pg_145_796 (Nat.le_of_ble_eq_true rfl) (ct_136v1 (p := p) hs (by omega) hx v796_v4_g0) ?_
  have hs := sh_up hs
  refine pg_145_799 (lv' := [some (xm_r (40, 0, 0)), some (xm_r (0, 0, 0)), some (xm_r (20, 0, 0)), some (xm_r (30, 0, 0)), some (xm_i (nI i)), some (xm_i (2 : Int32)), u6, u7]) rfl ?_
  refine pg_145_801 rfl ?_
  refine pg_145_802 rfl ?_
  refine pg_145_803 rfl ?_
  refine pg_145_805 ?_
  refine pg_145_806 ?_
  refine go_top (y := nI (i + 1)) (nx_add rfl (rfl : (1 : Int32) = nI 1)) ?_
  refine pg_145_807 (n := L) (Or.inr hsc) (i := (i + 1)) rfl (by omega) hL ?_
  refine go_top (y := xs (i + 1)) (((kp_re [2000] fi) (40, 0, 0) _ rfl).trans (hxs _ (by omega))) ?_
  refine go_top (y := nI p) ho1 ?_
  refine pg_145_808 (sk20 hs) (Nat.le_of_ble_eq_true rfl) (ct_108v1 (p := p) hs (by omega) (fz_kp hf (kp_re [2000] fi) rfl rfl rfl) v808_g0) ?_
  refine pg_145_811 (lv' := [some (xm_r (40, 0, 0)), some (xm_r (0, 0, 0)), some (xm_r (20, 0, 0)), some (xm_r (30, 0, 0)), some (xm_i (nI i)), some (xm_i (2 : Int32)), some (xm_i (0 : Int32)), u7]) rfl ?_
  refine pg_145_813 rfl ?_
  refine pg_145_814 (sk20 hs) (Nat.le_of_ble_eq_true rfl) (ct_69  hs) ?_
  refine go_top (y := (2 : Int32)) (by unfold sp_69; simp [xm_up]) ?_
  refine pg_145_817 rfl ?_
  refine pg_145_819 (fun _ => ?_) (fun hc => absurd (by decide) hc)
  refine pg_145_824 rfl ?_
  refine pg_145_826 (fun _ => ?_) (fun hc => absurd hc (by decide))
  refine pg_145_841 ?_
  refine pg_145_1274 (y := (nI (i + 5))) (lv' := [some (xm_r (40, 0, 0)), some (xm_r (0, 0, 0)), some (xm_r (20, 0, 0)), some (xm_r (30, 0, 0)), some (xm_i (nI (i + 5))), some (xm_i (2 : Int32)), some (xm_i (0 : Int32)), u7]) rfl (nI_add i 5) rfl ?_
  refine pg_145_1277 ?_
  exact K _ _ _
theorem lw_10_i {n : Nat} {E : xm_E} {c : Nat × Nat} {fi : FI} {fl : FL} {r : xm_I → Nat → Option xm_I} {L i : Nat} {xs : Nat → Int32} {R : xm_O} (hs : sh n E c r) (hf : fz n fi) (hB : BZ fi) (hsc : E.1 (40, 0, 0) = (110, L)) (hL : L < 100000) (hi : i + 5 ≤ L) (hxs : ∀ j, j < L → fi (40, 0, 0) j = xs j) (hop : xs i &&& 31 = 10) (hx : 200 ≤ (E.1 (E.2.2 c.1)).1) (v796_v4_g0 : (bI (sp_8 n (xs (i + 1)))) = 0) (v808_g0 : ¬ (bI (sp_99 n (xs (i + 1)))) = 0) (K : ∀ u5 u6 u7 : Option xm_V, xm_G E 8 true 145 43 [some (xm_r (40, 0, 0)), some (xm_r (0, 0, 0)), some (xm_r (20, 0, 0)), some (xm_r (30, 0, 0)), some (xm_i (nI (i + 5))), u5, u6, u7] [] ((c.1 + 1, c.2 + 6), (xm_up fi (20, 0, 0) 0 (1 : Int32)), fl, r) R) : ∀ u5 u6 u7 : Option xm_V, xm_G E 8 true 145 43 [some (xm_r (40, 0, 0)), some (xm_r (0, 0, 0)), some (xm_r (20, 0, 0)), some (xm_r (30, 0, 0)), some (xm_i (nI i)), u5, u6, u7] [] (c, fi, fl, r) R := by
  have hn := sh_n hs
  intro u5 u6 u7
  refine pg_145_43 rfl ?_
  refine pg_145_45 rfl ?_
  refine pg_145_46 (t := 110) (n := L) (Or.inl hsc) ?_
  refine pg_145_47 ?_
  refine pg_145_48 ?_
  refine pg_145_49 (fun hc => absurd hc (lw_go hi hL)) (fun _ => ?_)
  refine pg_145_52 rfl ?_
  refine pg_145_53 rfl ?_
  refine pg_145_55 (n := L) (Or.inr hsc) (i := i) rfl (by omega) hL ?_
  refine go_top (y := xs i) (((kp_re [2000] fi) (40, 0, 0) _ rfl).trans (hxs _ (by omega))) ?_
  refine pg_145_56 ?_
  refine pg_145_58 ?_
  refine go_top (y := (10 : Int32)) hop ?_
  refine pg_145_59 (off := 729) (t := 788) (by decide) (by decide) ?_
  refine pg_145_788 rfl ?_
  refine pg_145_789 rfl ?_
  refine pg_145_790 rfl ?_
  refine pg_145_792 ?_
  refine pg_145_793 ?_
  refine go_top (y := nI (i + 1)) (nx_add rfl (rfl : (1 : Int32) = nI 1)) ?_
  refine pg_145_794 (n := L) (Or.inr hsc) (i := (i + 1)) rfl (by omega) hL ?_
  refine go_top (y := xs (i + 1)) (((kp_re [2000] fi) (40, 0, 0) _ rfl).trans (hxs _ (by omega))) ?_
  refine pg_145_795 rfl ?_
  refine pg_145_796 (Nat.le_of_ble_eq_true rfl) (ct_136i0 (x := (xs (i + 1))) hs hx v796_v4_g0) ?_
  have hs := sh_up hs
  refine pg_145_799 (lv' := [some (xm_r (40, 0, 0)), some (xm_r (0, 0, 0)), some (xm_r (20, 0, 0)), some (xm_r (30, 0, 0)), some (xm_i (nI i)), some (xm_i (1 : Int32)), u6, u7]) rfl ?_
  refine pg_145_801 rfl ?_
  refine pg_145_802 rfl ?_
  refine pg_145_803 rfl ?_
  refine pg_145_805 ?_
  refine pg_145_806 ?_
  refine go_top (y := nI (i + 1)) (nx_add rfl (rfl : (1 : Int32) = nI 1)) ?_
  refine pg_145_807 (n := L) (Or.inr hsc) (i := (i + 1)) rfl (by omega) hL ?_
  refine go_top (y := xs (i + 1)) (((kp_re [2000] fi) (40, 0, 0) _ rfl).trans (hxs _ (by omega))) ?_
  refine pg_145_808 (sk20 hs) (Nat.le_of_ble_eq_true rfl) (ct_108i0 (x := (xs (i + 1))) hs (fz_kp hf (kp_re [2000] fi) rfl rfl rfl) v808_g0) ?_
  refine pg_145_811 (lv' := [some (xm_r (40, 0, 0)), some (xm_r (0, 0, 0)), some (xm_r (20, 0, 0)), some (xm_r (30, 0, 0)), some (xm_i (nI i)), some (xm_i (1 : Int32)), some (xm_i (0 : Int32)), u7]) rfl ?_
  refine pg_145_813 rfl ?_
  refine pg_145_814 (sk20 hs) (Nat.le_of_ble_eq_true rfl) (ct_69  hs) ?_
  refine go_top (y := (1 : Int32)) (by unfold sp_69; simp [xm_up]) ?_
  refine pg_145_817 rfl ?_
  refine pg_145_819 (fun _ => ?_) (fun hc => absurd (by decide) hc)
  refine pg_145_824 rfl ?_
  refine pg_145_826 (fun _ => ?_) (fun hc => absurd hc (by decide))
  refine pg_145_841 ?_
  refine pg_145_1274 (y := (nI (i + 5))) (lv' := [some (xm_r (40, 0, 0)), some (xm_r (0, 0, 0)), some (xm_r (20, 0, 0)), some (xm_r (30, 0, 0)), some (xm_i (nI (i + 5))), some (xm_i (1 : Int32)), some (xm_i (0 : Int32)), u7]) rfl (nI_add i 5) rfl ?_
  refine pg_145_1277 ?_
  exact K _ _ _
theorem lw_11_v0 {n : Nat} {E : xm_E} {c : Nat × Nat} {fi : FI} {fl : FL} {r : xm_I → Nat → Option xm_I} {L i : Nat} {xs : Nat → Int32} {p : Nat} {R : xm_O} (hs : sh n E c r) (hf : fz n fi) (hB : BZ fi) (hsc : E.1 (40, 0, 0) = (110, L)) (hL : L < 100000) (hi : i + 5 ≤ L) (hxs : ∀ j, j < L → fi (40, 0, 0) j = xs j) (hop : xs i &&& 31 = 11) (ho1 : xs (i + 1) = nI p) (hp : p < n) (g0 : (lg_cmp ((xm_up fl (30, 0, 0) 0 ((fi (8, p, 0) 1).toInt64)) (30, 0, 0) 0) ((fi (21, 13, 0) p).toInt64)) = 0) (v852_v4_g0 : (fi (7, p, 0) 3) = 0) (v864_g0 : (fi (21, 11, 0) p) = 0) (K : ∀ u5 u6 u7 : Option xm_V, xm_G E 8 true 145 43 [some (xm_r (40, 0, 0)), some (xm_r (0, 0, 0)), some (xm_r (20, 0, 0)), some (xm_r (30, 0, 0)), some (xm_i (nI (i + 5))), u5, u6, u7] [] (c, (xm_up fi (20, 0, 0) 0 (0 : Int32)), (xm_up fl (30, 0, 0) 0 ((fi (8, p, 0) 1).toInt64)), r) R) : ∀ u5 u6 u7 : Option xm_V, xm_G E 8 true 145 43 [some (xm_r (40, 0, 0)), some (xm_r (0, 0, 0)), some (xm_r (20, 0, 0)), some (xm_r (30, 0, 0)), some (xm_i (nI i)), u5, u6, u7] [] (c, fi, fl, r) R := by
  have hn := sh_n hs
  intro u5 u6 u7
  refine pg_145_43 rfl ?_
  refine pg_145_45 rfl ?_
  refine pg_145_46 (t := 110) (n := L) (Or.inl hsc) ?_
  refine pg_145_47 ?_
  refine pg_145_48 ?_
  refine pg_145_49 (fun hc => absurd hc (lw_go hi hL)) (fun _ => ?_)
  refine pg_145_52 rfl ?_
  refine pg_145_53 rfl ?_
  refine pg_145_55 (n := L) (Or.inr hsc) (i := i) rfl (by omega) hL ?_
  refine go_top (y := xs i) (((kp_re [2000] fi) (40, 0, 0) _ rfl).trans (hxs _ (by omega))) ?_
  refine pg_145_56 ?_
  refine pg_145_58 ?_
  refine go_top (y := (11 : Int32)) hop ?_
  refine pg_145_59 (off := 785) (t := 844) (by decide) (by decide) ?_
  refine pg_145_844 rfl ?_
  refine pg_145_845 rfl ?_
  refine pg_145_846 rfl ?_
  refine pg_145_848 ?_
  refine pg_145_849 ?_
  refine go_top (y := nI (i + 1)) (nx_add rfl (rfl : (1 : Int32) = nI 1)) ?_
  refine pg_145_850 (n := L) (Or.inr hsc) (i := (i + 1)) rfl (by omega) hL ?_
  refine go_top (y := xs (i + 1)) (((kp_re [2000] fi) (40, 0, 0) _ rfl).trans (hxs _ (by omega))) ?_
  refine go_top (y := nI p) ho1 ?_
  refine pg_145_851 rfl ?_
  refine pg_145_852 (Nat.le_of_ble_eq_true rfl) (ct_137v0 (p := p) hs (by omega) v852_v4_g0) ?_
  refine pg_145_855 (lv' := [some (xm_r (40, 0, 0)), some (xm_r (0, 0, 0)), some (xm_r (20, 0, 0)), some (xm_r (30, 0, 0)), some (xm_i (nI i)), some (xm_i (0 : Int32)), u6, u7]) rfl ?_
  refine pg_145_857 rfl ?_
  refine pg_145_858 rfl ?_
  refine pg_145_859 rfl ?_
  refine pg_145_861 ?_
  refine pg_145_862 ?_
  refine go_top (y := nI (i + 1)) (nx_add rfl (rfl : (1 : Int32) = nI 1)) ?_
  refine pg_145_863 (n := L) (Or.inr hsc) (i := (i + 1)) rfl (by omega) hL ?_
  refine go_top (y := xs (i + 1)) (((kp_re [2000] fi) (40, 0, 0) _ rfl).trans (hxs _ (by omega))) ?_
  refine go_top (y := nI p) ho1 ?_
  refine pg_145_864 (sk20 hs) (Nat.le_of_ble_eq_true rfl) (ct_109v0 (p := p) hs (by omega) (fz_kp hf (kp_re [2000] fi) rfl rfl rfl) v864_g0) ?_
  refine pg_145_867 (lv' := [some (xm_r (40, 0, 0)), some (xm_r (0, 0, 0)), some (xm_r (20, 0, 0)), some (xm_r (30, 0, 0)), some (xm_i (nI i)), some (xm_i (0 : Int32)), some (xm_i (fi (21, 13, 0) p)), u7]) rfl ?_
  refine pg_145_869 rfl ?_
  refine pg_145_870 (sk20 hs) (Nat.le_of_ble_eq_true rfl) (ct_69  hs) ?_
  refine go_top (y := (0 : Int32)) (by unfold sp_69; simp [xm_up]) ?_
  refine pg_145_873 rfl ?_
  refine pg_145_875 (fun _ => ?_) (fun hc => absurd (by decide) hc)
  refine pg_145_880 rfl ?_
  refine pg_145_882 (fun hc => absurd (by decide) hc) (fun _ => ?_)
  refine pg_145_885 rfl ?_
  refine pg_145_886 ?_
  refine pg_145_887 (sk30 hs) (i := 0) (rfl : (0 : Int32) = nI 0) (by omega) (by omega) ?_
  refine pg_145_888 rfl ?_
  refine pg_145_890 ?_
  refine pg_145_891 ?_
  refine pg_145_892 (fun _ => ?_) (fun hc => absurd g0 hc)
  refine pg_145_897 ?_
  refine pg_145_1274 (y := (nI (i + 5))) (lv' := [some (xm_r (40, 0, 0)), some (xm_r (0, 0, 0)), some (xm_r (20, 0, 0)), some (xm_r (30, 0, 0)), some (xm_i (nI (i + 5))), some (xm_i (0 : Int32)), some (xm_i (fi (21, 13, 0) p)), u7]) rfl (nI_add i 5) rfl ?_
  refine pg_145_1277 ?_
  exact K _ _ _
theorem lw_11_v1 {n : Nat} {E : xm_E} {c : Nat × Nat} {fi : FI} {fl : FL} {r : xm_I → Nat → Option xm_I} {L i : Nat} {xs : Nat → Int32} {p : Nat} {R : xm_O} (hs : sh n E c r) (hf : fz n fi) (hB : BZ fi) (hsc : E.1 (40, 0, 0) = (110, L)) (hL : L < 100000) (hi : i + 5 ≤ L) (hxs : ∀ j, j < L → fi (40, 0, 0) j = xs j) (hop : xs i &&& 31 = 11) (ho1 : xs (i + 1) = nI p) (hp : p < n) (hx : 200 ≤ (E.1 (E.2.2 c.1)).1) (v852_v4_g0 : ¬ (fi (7, p, 0) 3) = 0) (v864_g0 : ¬ (fi (21, 11, 0) p) = 0) (K : ∀ u5 u6 u7 : Option xm_V, xm_G E 8 true 145 43 [some (xm_r (40, 0, 0)), some (xm_r (0, 0, 0)), some (xm_r (20, 0, 0)), some (xm_r (30, 0, 0)), some (xm_i (nI (i + 5))), u5, u6, u7] [] ((c.1 + 1, c.2 + 6), (xm_up fi (20, 0, 0) 0 (2 : Int32)), fl, r) R) : ∀ u5 u6 u7 : Option xm_V, xm_G E 8 true 145 43 [some (xm_r (40, 0, 0)), some (xm_r (0, 0, 0)), some (xm_r (20, 0, 0)), some (xm_r (30, 0, 0)), some (xm_i (nI i)), u5, u6, u7] [] (c, fi, fl, r) R := by
  have hn := sh_n hs
  intro u5 u6 u7
  refine pg_145_43 rfl ?_
  refine pg_145_45 rfl ?_
  refine pg_145_46 (t := 110) (n := L) (Or.inl hsc) ?_
  refine pg_145_47 ?_
  refine pg_145_48 ?_
  refine pg_145_49 (fun hc => absurd hc (lw_go hi hL)) (fun _ => ?_)
  refine pg_145_52 rfl ?_
  refine pg_145_53 rfl ?_
  refine pg_145_55 (n := L) (Or.inr hsc) (i := i) rfl (by omega) hL ?_
  refine go_top (y := xs i) (((kp_re [2000] fi) (40, 0, 0) _ rfl).trans (hxs _ (by omega))) ?_
  refine pg_145_56 ?_
  refine pg_145_58 ?_
  refine go_top (y := (11 : Int32)) hop ?_
  refine pg_145_59 (off := 785) (t := 844) (by decide) (by decide) ?_
  refine pg_145_844 rfl ?_
  refine pg_145_845 rfl ?_
  refine pg_145_846 rfl ?_
  refine pg_145_848 ?_
  refine pg_145_849 ?_
  refine go_top (y := nI (i + 1)) (nx_add rfl (rfl : (1 : Int32) = nI 1)) ?_
  refine pg_145_850 (n := L) (Or.inr hsc) (i := (i + 1)) rfl (by omega) hL ?_
  refine go_top (y := xs (i + 1)) (((kp_re [2000] fi) (40, 0, 0) _ rfl).trans (hxs _ (by omega))) ?_
  refine go_top (y := nI p) ho1 ?_
  refine pg_145_851 rfl ?_
  refine pg_145_852 (Nat.le_of_ble_eq_true rfl) (ct_137v1 (p := p) hs (by omega) hx v852_v4_g0) ?_
  have hs := sh_up hs
  refine pg_145_855 (lv' := [some (xm_r (40, 0, 0)), some (xm_r (0, 0, 0)), some (xm_r (20, 0, 0)), some (xm_r (30, 0, 0)), some (xm_i (nI i)), some (xm_i (2 : Int32)), u6, u7]) rfl ?_
  refine pg_145_857 rfl ?_
  refine pg_145_858 rfl ?_
  refine pg_145_859 rfl ?_
  refine pg_145_861 ?_
  refine pg_145_862 ?_
  refine go_top (y := nI (i + 1)) (nx_add rfl (rfl : (1 : Int32) = nI 1)) ?_
  refine pg_145_863 (n := L) (Or.inr hsc) (i := (i + 1)) rfl (by omega) hL ?_
  refine go_top (y := xs (i + 1)) (((kp_re [2000] fi) (40, 0, 0) _ rfl).trans (hxs _ (by omega))) ?_
  refine go_top (y := nI p) ho1 ?_
  refine pg_145_864 (sk20 hs) (Nat.le_of_ble_eq_true rfl) (ct_109v1 (p := p) hs (by omega) (fz_kp hf (kp_re [2000] fi) rfl rfl rfl) v864_g0) ?_
  refine pg_145_867 (lv' := [some (xm_r (40, 0, 0)), some (xm_r (0, 0, 0)), some (xm_r (20, 0, 0)), some (xm_r (30, 0, 0)), some (xm_i (nI i)), some (xm_i (2 : Int32)), some (xm_i (0 : Int32)), u7]) rfl ?_
  refine pg_145_869 rfl ?_
  refine pg_145_870 (sk20 hs) (Nat.le_of_ble_eq_true rfl) (ct_69  hs) ?_
  refine go_top (y := (2 : Int32)) (by unfold sp_69; simp [xm_up]) ?_
  refine pg_145_873 rfl ?_
  refine pg_145_875 (fun _ => ?_) (fun hc => absurd (by decide) hc)
  refine pg_145_880 rfl ?_
  refine pg_145_882 (fun _ => ?_) (fun hc => absurd hc (by decide))
  refine pg_145_897 ?_
  refine pg_145_1274 (y := (nI (i + 5))) (lv' := [some (xm_r (40, 0, 0)), some (xm_r (0, 0, 0)), some (xm_r (20, 0, 0)), some (xm_r (30, 0, 0)), some (xm_i (nI (i + 5))), some (xm_i (2 : Int32)), some (xm_i (0 : Int32)), u7]) rfl (nI_add i 5) rfl ?_
  refine pg_145_1277 ?_
  exact K _ _ _
theorem lw_11_i {n : Nat} {E : xm_E} {c : Nat × Nat} {fi : FI} {fl : FL} {r : xm_I → Nat → Option xm_I} {L i : Nat} {xs : Nat → Int32} {R : xm_O} (hs : sh n E c r) (hf : fz n fi) (hB : BZ fi) (hsc : E.1 (40, 0, 0) = (110, L)) (hL : L < 100000) (hi : i + 5 ≤ L) (hxs : ∀ j, j < L → fi (40, 0, 0) j = xs j) (hop : xs i &&& 31 = 11) (hx : 200 ≤ (E.1 (E.2.2 c.1)).1) (v852_v4_g0 : (bI (sp_8 n (xs (i + 1)))) = 0) (v864_g0 : ¬ (bI (sp_99 n (xs (i + 1)))) = 0) (K : ∀ u5 u6 u7 : Option xm_V, xm_G E 8 true 145 43 [some (xm_r (40, 0, 0)), some (xm_r (0, 0, 0)), some (xm_r (20, 0, 0)), some (xm_r (30, 0, 0)), some (xm_i (nI (i + 5))), u5, u6, u7] [] ((c.1 + 1, c.2 + 6), (xm_up fi (20, 0, 0) 0 (1 : Int32)), fl, r) R) : ∀ u5 u6 u7 : Option xm_V, xm_G E 8 true 145 43 [some (xm_r (40, 0, 0)), some (xm_r (0, 0, 0)), some (xm_r (20, 0, 0)), some (xm_r (30, 0, 0)), some (xm_i (nI i)), u5, u6, u7] [] (c, fi, fl, r) R := by
  have hn := sh_n hs
  intro u5 u6 u7
  refine pg_145_43 rfl ?_
  refine pg_145_45 rfl ?_
  refine pg_145_46 (t := 110) (n := L) (Or.inl hsc) ?_
  refine pg_145_47 ?_
  refine pg_145_48 ?_
  refine pg_145_49 (fun hc => absurd hc (lw_go hi hL)) (fun _ => ?_)
  refine pg_145_52 rfl ?_
  refine pg_145_53 rfl ?_
  refine pg_145_55 (n := L) (Or.inr hsc) (i := i) rfl (by omega) hL ?_
  refine go_top (y := xs i) (((kp_re [2000] fi) (40, 0, 0) _ rfl).trans (hxs _ (by omega))) ?_
  refine pg_145_56 ?_
  refine pg_145_58 ?_
  refine go_top (y := (11 : Int32)) hop ?_
  refine pg_145_59 (off := 785) (t := 844) (by decide) (by decide) ?_
  refine pg_145_844 rfl ?_
  refine pg_145_845 rfl ?_
  refine pg_145_846 rfl ?_
  refine pg_145_848 ?_
  refine pg_145_849 ?_
  refine go_top (y := nI (i + 1)) (nx_add rfl (rfl : (1 : Int32) = nI 1)) ?_
  refine pg_145_850 (n := L) (Or.inr hsc) (i := (i + 1)) rfl (by omega) hL ?_
  refine go_top (y := xs (i + 1)) (((kp_re [2000] fi) (40, 0, 0) _ rfl).trans (hxs _ (by omega))) ?_
  refine pg_145_851 rfl ?_
  refine pg_145_852 (Nat.le_of_ble_eq_true rfl) (ct_137i0 (x := (xs (i + 1))) hs hx v852_v4_g0) ?_
  have hs := sh_up hs
  refine pg_145_855 (lv' := [some (xm_r (40, 0, 0)), some (xm_r (0, 0, 0)), some (xm_r (20, 0, 0)), some (xm_r (30, 0, 0)), some (xm_i (nI i)), some (xm_i (1 : Int32)), u6, u7]) rfl ?_
  refine pg_145_857 rfl ?_
  refine pg_145_858 rfl ?_
  refine pg_145_859 rfl ?_
  refine pg_145_861 ?_
  refine pg_145_862 ?_
  refine go_top (y := nI (i + 1)) (nx_add rfl (rfl : (1 : Int32) = nI 1)) ?_
  refine pg_145_863 (n := L) (Or.inr hsc) (i := (i + 1)) rfl (by omega) hL ?_
  refine go_top (y := xs (i + 1)) (((kp_re [2000] fi) (40, 0, 0) _ rfl).trans (hxs _ (by omega))) ?_
  refine pg_145_864 (sk20 hs) (Nat.le_of_ble_eq_true rfl) (ct_109i0 (x := (xs (i + 1))) hs (fz_kp hf (kp_re [2000] fi) rfl rfl rfl) v864_g0) ?_
  refine pg_145_867 (lv' := [some (xm_r (40, 0, 0)), some (xm_r (0, 0, 0)), some (xm_r (20, 0, 0)), some (xm_r (30, 0, 0)), some (xm_i (nI i)), some (xm_i (1 : Int32)), some (xm_i (0 : Int32)), u7]) rfl ?_
  refine pg_145_869 rfl ?_
  refine pg_145_870 (sk20 hs) (Nat.le_of_ble_eq_true rfl) (ct_69  hs) ?_
  refine go_top (y := (1 : Int32)) (by unfold sp_69; simp [xm_up]) ?_
  refine pg_145_873 rfl ?_
  refine pg_145_875 (fun _ => ?_) (fun hc => absurd (by decide) hc)
  refine pg_145_880 rfl ?_
  refine pg_145_882 (fun _ => ?_) (fun hc => absurd hc (by decide))
  refine pg_145_897 ?_
  refine pg_145_1274 (y := (nI (i + 5))) (lv' := [some (xm_r (40, 0, 0)), some (xm_r (0, 0, 0)), some (xm_r (20, 0, 0)), some (xm_r (30, 0, 0)), some (xm_i (nI (i + 5))), some (xm_i (1 : Int32)), some (xm_i (0 : Int32)), u7]) rfl (nI_add i 5) rfl ?_
  refine pg_145_1277 ?_
  exact K _ _ _
theorem lw_12_v0 {n : Nat} {E : xm_E} {c : Nat × Nat} {fi : FI} {fl : FL} {r : xm_I → Nat → Option xm_I} {L i : Nat} {xs : Nat → Int32} {p : Nat} {R : xm_O} (hs : sh n E c r) (hf : fz n fi) (hB : BZ fi) (hsc : E.1 (40, 0, 0) = (110, L)) (hL : L < 100000) (hi : i + 5 ≤ L) (hxs : ∀ j, j < L → fi (40, 0, 0) j = xs j) (hop : xs i &&& 31 = 12) (ho1 : xs (i + 1) = nI p) (hp : p < n) (hx : 200 ≤ (E.1 (E.2.2 c.1)).1) (v908_v4_g0 : (fi (7, p, 0) 11) = 0) (v920_g0 : (fi (21, 19, 0) p) = 0) (K : ∀ u5 u6 u7 : Option xm_V, xm_G E 8 true 145 43 [some (xm_r (40, 0, 0)), some (xm_r (0, 0, 0)), some (xm_r (20, 0, 0)), some (xm_r (30, 0, 0)), some (xm_i (nI (i + 5))), u5, u6, u7] [] ((c.1 + 1, c.2 + 6), (xm_up fi (20, 0, 0) 0 (2 : Int32)), fl, r) R) : ∀ u5 u6 u7 : Option xm_V, xm_G E 8 true 145 43 [some (xm_r (40, 0, 0)), some (xm_r (0, 0, 0)), some (xm_r (20, 0, 0)), some (xm_r (30, 0, 0)), some (xm_i (nI i)), u5, u6, u7] [] (c, fi, fl, r) R := by
  have hn := sh_n hs
  intro u5 u6 u7
  refine pg_145_43 rfl ?_
  refine pg_145_45 rfl ?_
  refine pg_145_46 (t := 110) (n := L) (Or.inl hsc) ?_
  refine pg_145_47 ?_
  refine pg_145_48 ?_
  refine pg_145_49 (fun hc => absurd hc (lw_go hi hL)) (fun _ => ?_)
  refine pg_145_52 rfl ?_
  refine pg_145_53 rfl ?_
  refine pg_145_55 (n := L) (Or.inr hsc) (i := i) rfl (by omega) hL ?_
  refine go_top (y := xs i) (((kp_re [2000] fi) (40, 0, 0) _ rfl).trans (hxs _ (by omega))) ?_
  refine pg_145_56 ?_
  refine pg_145_58 ?_
  refine go_top (y := (12 : Int32)) hop ?_
  refine pg_145_59 (off := 841) (t := 900) (by decide) (by decide) ?_
  refine pg_145_900 rfl ?_
  refine pg_145_901 rfl ?_
  refine pg_145_902 rfl ?_
  refine pg_145_904 ?_
  refine pg_145_905 ?_
  refine go_top (y := nI (i + 1)) (nx_add rfl (rfl : (1 : Int32) = nI 1)) ?_
  refine pg_145_906 (n := L) (Or.inr hsc) (i := (i + 1)) rfl (by omega) hL ?_
  refine go_top (y := xs (i + 1)) (((kp_re [2000] fi) (40, 0, 0) _ rfl).trans (hxs _ (by omega))) ?_
  refine go_top (y := nI p) ho1 ?_
  refine pg_145_907 rfl ?_
  refine pg_145_908 (Nat.le_of_ble_eq_true rfl) (ct_138v0 (p := p) hs (by omega) hx v908_v4_g0) ?_
  have hs := sh_up hs
  refine pg_145_911 (lv' := [some (xm_r (40, 0, 0)), some (xm_r (0, 0, 0)), some (xm_r (20, 0, 0)), some (xm_r (30, 0, 0)), some (xm_i (nI i)), some (xm_i (2 : Int32)), u6, u7]) rfl ?_
  refine pg_145_913 rfl ?_
  refine pg_145_914 rfl ?_
  refine pg_145_915 rfl ?_
  refine pg_145_917 ?_
  refine pg_145_918 ?_
  refine go_top (y := nI (i + 1)) (nx_add rfl (rfl : (1 : Int32) = nI 1)) ?_
  refine pg_145_919 (n := L) (Or.inr hsc) (i := (i + 1)) rfl (by omega) hL ?_
  refine go_top (y := xs (i + 1)) (((kp_re [2000] fi) (40, 0, 0) _ rfl).trans (hxs _ (by omega))) ?_
  refine go_top (y := nI p) ho1 ?_
  refine pg_145_920 (sk20 hs) (Nat.le_of_ble_eq_true rfl) (ct_110v0 (p := p) hs (by omega) (fz_kp hf (kp_re [2000] fi) rfl rfl rfl) v920_g0) ?_
  refine pg_145_923 (lv' := [some (xm_r (40, 0, 0)), some (xm_r (0, 0, 0)), some (xm_r (20, 0, 0)), some (xm_r (30, 0, 0)), some (xm_i (nI i)), some (xm_i (2 : Int32)), some (xm_i (0 : Int32)), u7]) rfl ?_
  refine pg_145_925 rfl ?_
  refine pg_145_926 (sk20 hs) (Nat.le_of_ble_eq_true rfl) (ct_69  hs) ?_
  refine go_top (y := (2 : Int32)) (by unfold sp_69; simp [xm_up]) ?_
  refine pg_145_929 rfl ?_
  refine pg_145_931 (fun _ => ?_) (fun hc => absurd (by decide) hc)
  refine pg_145_936 rfl ?_
  refine pg_145_938 (fun _ => ?_) (fun hc => absurd hc (by decide))
  refine pg_145_953 ?_
  refine pg_145_1274 (y := (nI (i + 5))) (lv' := [some (xm_r (40, 0, 0)), some (xm_r (0, 0, 0)), some (xm_r (20, 0, 0)), some (xm_r (30, 0, 0)), some (xm_i (nI (i + 5))), some (xm_i (2 : Int32)), some (xm_i (0 : Int32)), u7]) rfl (nI_add i 5) rfl ?_
  refine pg_145_1277 ?_
  exact K _ _ _
theorem lw_12_v1 {n : Nat} {E : xm_E} {c : Nat × Nat} {fi : FI} {fl : FL} {r : xm_I → Nat → Option xm_I} {L i : Nat} {xs : Nat → Int32} {p : Nat} {R : xm_O} (hs : sh n E c r) (hf : fz n fi) (hB : BZ fi) (hsc : E.1 (40, 0, 0) = (110, L)) (hL : L < 100000) (hi : i + 5 ≤ L) (hxs : ∀ j, j < L → fi (40, 0, 0) j = xs j) (hop : xs i &&& 31 = 12) (ho1 : xs (i + 1) = nI p) (hp : p < n) (g0 : (lg_cmp ((xm_up fl (30, 0, 0) 0 ((fi (7, p, 0) 12).toInt64)) (30, 0, 0) 0) ((fi (21, 20, 0) p).toInt64)) = 0) (v908_v4_g0 : ¬ (fi (7, p, 0) 11) = 0) (v920_g0 : ¬ (fi (21, 19, 0) p) = 0) (K : ∀ u5 u6 u7 : Option xm_V, xm_G E 8 true 145 43 [some (xm_r (40, 0, 0)), some (xm_r (0, 0, 0)), some (xm_r (20, 0, 0)), some (xm_r (30, 0, 0)), some (xm_i (nI (i + 5))), u5, u6, u7] [] (c, (xm_up fi (20, 0, 0) 0 (0 : Int32)), (xm_up fl (30, 0, 0) 0 ((fi (7, p, 0) 12).toInt64)), r) R) : ∀ u5 u6 u7 : Option xm_V, xm_G E 8 true 145 43 [some (xm_r (40, 0, 0)), some (xm_r (0, 0, 0)), some (xm_r (20, 0, 0)), some (xm_r (30, 0, 0)), some (xm_i (nI i)), u5, u6, u7] [] (c, fi, fl, r) R := by
  have hn := sh_n hs
  intro u5 u6 u7
  refine pg_145_43 rfl ?_
  refine pg_145_45 rfl ?_
  refine pg_145_46 (t := 110) (n := L) (Or.inl hsc) ?_
  refine pg_145_47 ?_
  refine pg_145_48 ?_
  refine pg_145_49 (fun hc => absurd hc (lw_go hi hL)) (fun _ => ?_)
  refine pg_145_52 rfl ?_
  refine pg_145_53 rfl ?_
  refine pg_145_55 (n := L) (Or.inr hsc) (i := i) rfl (by omega) hL ?_
  refine go_top (y := xs i) (((kp_re [2000] fi) (40, 0, 0) _ rfl).trans (hxs _ (by omega))) ?_
  refine pg_145_56 ?_
  refine pg_145_58 ?_
  refine go_top (y := (12 : Int32)) hop ?_
  refine pg_145_59 (off := 841) (t := 900) (by decide) (by decide) ?_
  refine pg_145_900 rfl ?_
  refine pg_145_901 rfl ?_
  refine pg_145_902 rfl ?_
  refine pg_145_904 ?_
  refine pg_145_905 ?_
  refine go_top (y := nI (i + 1)) (nx_add rfl (rfl : (1 : Int32) = nI 1)) ?_
  refine pg_145_906 (n := L) (Or.inr hsc) (i := (i + 1)) rfl (by omega) hL ?_
  refine go_top (y := xs (i + 1)) (((kp_re [2000] fi) (40, 0, 0) _ rfl).trans (hxs _ (by omega))) ?_
  refine go_top (y := nI p) ho1 ?_
  refine pg_145_907 rfl ?_
  refine pg_145_908 (Nat.le_of_ble_eq_true rfl) (ct_138v1 (p := p) hs (by omega) v908_v4_g0) ?_
  refine pg_145_911 (lv' := [some (xm_r (40, 0, 0)), some (xm_r (0, 0, 0)), some (xm_r (20, 0, 0)), some (xm_r (30, 0, 0)), some (xm_i (nI i)), some (xm_i (0 : Int32)), u6, u7]) rfl ?_
  refine pg_145_913 rfl ?_
  refine pg_145_914 rfl ?_
  refine pg_145_915 rfl ?_
  refine pg_145_917 ?_
  refine pg_145_918 ?_
  refine go_top (y := nI (i + 1)) (nx_add rfl (rfl : (1 : Int32) = nI 1)) ?_
  refine pg_145_919 (n := L) (Or.inr hsc) (i := (i + 1)) rfl (by omega) hL ?_
  refine go_top (y := xs (i + 1)) (((kp_re [2000] fi) (40, 0, 0) _ rfl).trans (hxs _ (by omega))) ?_
  refine go_top (y := nI p) ho1 ?_
  refine pg_145_920 (sk20 hs) (Nat.le_of_ble_eq_true rfl) (ct_110v1 (p := p) hs (by omega) (fz_kp hf (kp_re [2000] fi) rfl rfl rfl) v920_g0) ?_
  refine pg_145_923 (lv' := [some (xm_r (40, 0, 0)), some (xm_r (0, 0, 0)), some (xm_r (20, 0, 0)), some (xm_r (30, 0, 0)), some (xm_i (nI i)), some (xm_i (0 : Int32)), some (xm_i (fi (21, 20, 0) p)), u7]) rfl ?_
  refine pg_145_925 rfl ?_
  refine pg_145_926 (sk20 hs) (Nat.le_of_ble_eq_true rfl) (ct_69  hs) ?_
  refine go_top (y := (0 : Int32)) (by unfold sp_69; simp [xm_up]) ?_
  refine pg_145_929 rfl ?_
  refine pg_145_931 (fun _ => ?_) (fun hc => absurd (by decide) hc)
  refine pg_145_936 rfl ?_
  refine pg_145_938 (fun hc => absurd (by decide) hc) (fun _ => ?_)
  refine pg_145_941 rfl ?_
  refine pg_145_942 ?_
  refine pg_145_943 (sk30 hs) (i := 0) (rfl : (0 : Int32) = nI 0) (by omega) (by omega) ?_
  refine pg_145_944 rfl ?_
  refine pg_145_946 ?_
  refine pg_145_947 ?_
  refine pg_145_948 (fun _ => ?_) (fun hc => absurd g0 hc)
  refine pg_145_953 ?_
  refine pg_145_1274 (y := (nI (i + 5))) (lv' := [some (xm_r (40, 0, 0)), some (xm_r (0, 0, 0)), some (xm_r (20, 0, 0)), some (xm_r (30, 0, 0)), some (xm_i (nI (i + 5))), some (xm_i (0 : Int32)), some (xm_i (fi (21, 20, 0) p)), u7]) rfl (nI_add i 5) rfl ?_
  refine pg_145_1277 ?_
  exact K _ _ _
theorem lw_12_i {n : Nat} {E : xm_E} {c : Nat × Nat} {fi : FI} {fl : FL} {r : xm_I → Nat → Option xm_I} {L i : Nat} {xs : Nat → Int32} {R : xm_O} (hs : sh n E c r) (hf : fz n fi) (hB : BZ fi) (hsc : E.1 (40, 0, 0) = (110, L)) (hL : L < 100000) (hi : i + 5 ≤ L) (hxs : ∀ j, j < L → fi (40, 0, 0) j = xs j) (hop : xs i &&& 31 = 12) (hx : 200 ≤ (E.1 (E.2.2 c.1)).1) (v908_v4_g0 : (bI (sp_8 n (xs (i + 1)))) = 0) (v920_g0 : ¬ (bI (sp_99 n (xs (i + 1)))) = 0) (K : ∀ u5 u6 u7 : Option xm_V, xm_G E 8 true 145 43 [some (xm_r (40, 0, 0)), some (xm_r (0, 0, 0)), some (xm_r (20, 0, 0)), some (xm_r (30, 0, 0)), some (xm_i (nI (i + 5))), u5, u6, u7] [] ((c.1 + 1, c.2 + 6), (xm_up fi (20, 0, 0) 0 (1 : Int32)), fl, r) R) : ∀ u5 u6 u7 : Option xm_V, xm_G E 8 true 145 43 [some (xm_r (40, 0, 0)), some (xm_r (0, 0, 0)), some (xm_r (20, 0, 0)), some (xm_r (30, 0, 0)), some (xm_i (nI i)), u5, u6, u7] [] (c, fi, fl, r) R := by
  have hn := sh_n hs
  intro u5 u6 u7
  refine pg_145_43 rfl ?_
  refine pg_145_45 rfl ?_
  refine pg_145_46 (t := 110) (n := L) (Or.inl hsc) ?_
  refine pg_145_47 ?_
  refine pg_145_48 ?_
  refine pg_145_49 (fun hc => absurd hc (lw_go hi hL)) (fun _ => ?_)
  refine pg_145_52 rfl ?_
  refine pg_145_53 rfl ?_
  refine pg_145_55 (n := L) (Or.inr hsc) (i := i) rfl (by omega) hL ?_
  refine go_top (y := xs i) (((kp_re [2000] fi) (40, 0, 0) _ rfl).trans (hxs _ (by omega))) ?_
  refine pg_145_56 ?_
  refine pg_145_58 ?_
  refine go_top (y := (12 : Int32)) hop ?_
  refine pg_145_59 (off := 841) (t := 900) (by decide) (by decide) ?_
  refine pg_145_900 rfl ?_
  refine pg_145_901 rfl ?_
  refine pg_145_902 rfl ?_
  refine pg_145_904 ?_
  refine pg_145_905 ?_
  refine go_top (y := nI (i + 1)) (nx_add rfl (rfl : (1 : Int32) = nI 1)) ?_
  refine pg_145_906 (n := L) (Or.inr hsc) (i := (i + 1)) rfl (by omega) hL ?_
  refine go_top (y := xs (i + 1)) (((kp_re [2000] fi) (40, 0, 0) _ rfl).trans (hxs _ (by omega))) ?_
  refine pg_145_907 rfl ?_
  refine pg_145_908 (Nat.le_of_ble_eq_true rfl) (ct_138i0 (x := (xs (i + 1))) hs hx v908_v4_g0) ?_
  have hs := sh_up hs
  refine pg_145_911 (lv' := [some (xm_r (40, 0, 0)), some (xm_r (0, 0, 0)), some (xm_r (20, 0, 0)), some (xm_r (30, 0, 0)), some (xm_i (nI i)), some (xm_i (1 : Int32)), u6, u7]) rfl ?_
  refine pg_145_913 rfl ?_
  refine pg_145_914 rfl ?_
  refine pg_145_915 rfl ?_
  refine pg_145_917 ?_
  refine pg_145_918 ?_
  refine go_top (y := nI (i + 1)) (nx_add rfl (rfl : (1 : Int32) = nI 1)) ?_
  refine pg_145_919 (n := L) (Or.inr hsc) (i := (i + 1)) rfl (by omega) hL ?_
  refine go_top (y := xs (i + 1)) (((kp_re [2000] fi) (40, 0, 0) _ rfl).trans (hxs _ (by omega))) ?_
  refine pg_145_920 (sk20 hs) (Nat.le_of_ble_eq_true rfl) (ct_110i0 (x := (xs (i + 1))) hs (fz_kp hf (kp_re [2000] fi) rfl rfl rfl) v920_g0) ?_
  refine pg_145_923 (lv' := [some (xm_r (40, 0, 0)), some (xm_r (0, 0, 0)), some (xm_r (20, 0, 0)), some (xm_r (30, 0, 0)), some (xm_i (nI i)), some (xm_i (1 : Int32)), some (xm_i (0 : Int32)), u7]) rfl ?_
  refine pg_145_925 rfl ?_
  refine pg_145_926 (sk20 hs) (Nat.le_of_ble_eq_true rfl) (ct_69  hs) ?_
  refine go_top (y := (1 : Int32)) (by unfold sp_69; simp [xm_up]) ?_
  refine pg_145_929 rfl ?_
  refine pg_145_931 (fun _ => ?_) (fun hc => absurd (by decide) hc)
  refine pg_145_936 rfl ?_
  refine pg_145_938 (fun _ => ?_) (fun hc => absurd hc (by decide))
  refine pg_145_953 ?_
  refine pg_145_1274 (y := (nI (i + 5))) (lv' := [some (xm_r (40, 0, 0)), some (xm_r (0, 0, 0)), some (xm_r (20, 0, 0)), some (xm_r (30, 0, 0)), some (xm_i (nI (i + 5))), some (xm_i (1 : Int32)), some (xm_i (0 : Int32)), u7]) rfl (nI_add i 5) rfl ?_
  refine pg_145_1277 ?_
  exact K _ _ _
theorem lw_13_v0 {n : Nat} {E : xm_E} {c : Nat × Nat} {fi : FI} {fl : FL} {r : xm_I → Nat → Option xm_I} {L i : Nat} {xs : Nat → Int32} {o : Nat} {p : Nat} {R : xm_O} (hs : sh n E c r) (hf : fz n fi) (hB : BZ fi) (hsc : E.1 (40, 0, 0) = (110, L)) (hL : L < 100000) (hi : i + 5 ≤ L) (hxs : ∀ j, j < L → fi (40, 0, 0) j = xs j) (hop : xs i &&& 31 = 13) (ho1 : xs (i + 1) = nI p) (ho2 : xs (i + 2) = nI o) (hp : p < n) (ho : o < n) (g0 : (sp_69 ((sp_111 n fi p o).2)) = (0 : Int32)) (g1 : (bI ((sp_111 n fi p o).1)) = 0) (g2 : (lg_cmp ((xm_up fl (30, 0, 0) 0 (if (bI (sp_60 fi p o)) = 0 then (0 : Int64) else (1 : Int64))) (30, 0, 0) 0) (0 : Int64)) = 0) (K : ∀ u5 u6 u7 : Option xm_V, xm_G E 8 true 145 43 [some (xm_r (40, 0, 0)), some (xm_r (0, 0, 0)), some (xm_r (20, 0, 0)), some (xm_r (30, 0, 0)), some (xm_i (nI (i + 5))), u5, u6, u7] [] (c, ((sp_111 n fi p o).2), (xm_up fl (30, 0, 0) 0 (if (bI (sp_60 fi p o)) = 0 then (0 : Int64) else (1 : Int64))), r) R) : ∀ u5 u6 u7 : Option xm_V, xm_G E 8 true 145 43 [some (xm_r (40, 0, 0)), some (xm_r (0, 0, 0)), some (xm_r (20, 0, 0)), some (xm_r (30, 0, 0)), some (xm_i (nI i)), u5, u6, u7] [] (c, fi, fl, r) R := by
  have hn := sh_n hs
  intro u5 u6 u7
  refine pg_145_43 rfl ?_
  refine pg_145_45 rfl ?_
  refine pg_145_46 (t := 110) (n := L) (Or.inl hsc) ?_
  refine pg_145_47 ?_
  refine pg_145_48 ?_
  refine pg_145_49 (fun hc => absurd hc (lw_go hi hL)) (fun _ => ?_)
  refine pg_145_52 rfl ?_
  refine pg_145_53 rfl ?_
  refine pg_145_55 (n := L) (Or.inr hsc) (i := i) rfl (by omega) hL ?_
  refine go_top (y := xs i) (((kp_re [2000] fi) (40, 0, 0) _ rfl).trans (hxs _ (by omega))) ?_
  refine pg_145_56 ?_
  refine pg_145_58 ?_
  refine go_top (y := (13 : Int32)) hop ?_
  refine pg_145_59 (off := 897) (t := 956) (by decide) (by decide) ?_
  refine pg_145_956 rfl ?_
  refine pg_145_957 rfl ?_
  refine pg_145_958 rfl ?_
  refine pg_145_960 ?_
  refine pg_145_961 ?_
  refine go_top (y := nI (i + 1)) (nx_add rfl (rfl : (1 : Int32) = nI 1)) ?_
  refine pg_145_962 (n := L) (Or.inr hsc) (i := (i + 1)) rfl (by omega) hL ?_
  refine go_top (y := xs (i + 1)) (((kp_re [2000] fi) (40, 0, 0) _ rfl).trans (hxs _ (by omega))) ?_
  refine go_top (y := nI p) ho1 ?_
  refine pg_145_963 rfl ?_
  refine pg_145_964 rfl ?_
  refine pg_145_966 ?_
  refine pg_145_967 ?_
  refine go_top (y := nI (i + 2)) (nx_add rfl (rfl : (2 : Int32) = nI 2)) ?_
  refine pg_145_968 (n := L) (Or.inr hsc) (i := (i + 2)) rfl (by omega) hL ?_
  refine go_top (y := xs (i + 2)) (((kp_re [2000] fi) (40, 0, 0) _ rfl).trans (hxs _ (by omega))) ?_
  refine go_top (y := nI o) ho2 ?_
  refine pg_145_969 rfl ?_
  refine pg_145_970 (Nat.le_of_ble_eq_true rfl) (ct_139v0 (p := p) (o := o) hs (by omega) (by omega)) ?_
  refine pg_145_973 (lv' := [some (xm_r (40, 0, 0)), some (xm_r (0, 0, 0)), some (xm_r (20, 0, 0)), some (xm_r (30, 0, 0)), some (xm_i (nI i)), some (xm_i (0 : Int32)), u6, u7]) rfl ?_
  refine pg_145_975 rfl ?_
  refine pg_145_976 rfl ?_
  refine pg_145_977 rfl ?_
  refine pg_145_979 ?_
  refine pg_145_980 ?_
  refine go_top (y := nI (i + 1)) (nx_add rfl (rfl : (1 : Int32) = nI 1)) ?_
  refine pg_145_981 (n := L) (Or.inr hsc) (i := (i + 1)) rfl (by omega) hL ?_
  refine go_top (y := xs (i + 1)) (((kp_re [2000] fi) (40, 0, 0) _ rfl).trans (hxs _ (by omega))) ?_
  refine go_top (y := nI p) ho1 ?_
  refine pg_145_982 rfl ?_
  refine pg_145_983 rfl ?_
  refine pg_145_985 ?_
  refine pg_145_986 ?_
  refine go_top (y := nI (i + 2)) (nx_add rfl (rfl : (2 : Int32) = nI 2)) ?_
  refine pg_145_987 (n := L) (Or.inr hsc) (i := (i + 2)) rfl (by omega) hL ?_
  refine go_top (y := xs (i + 2)) (((kp_re [2000] fi) (40, 0, 0) _ rfl).trans (hxs _ (by omega))) ?_
  refine go_top (y := nI o) ho2 ?_
  refine pg_145_988 (sk20 hs) (Nat.le_of_ble_eq_true rfl) (ct_111 (p := p) (o := o) hs (by omega) (by omega) (fz_kp hf (kp_re [2000] fi) rfl rfl rfl)) ?_
  refine pg_145_991 (lv' := [some (xm_r (40, 0, 0)), some (xm_r (0, 0, 0)), some (xm_r (20, 0, 0)), some (xm_r (30, 0, 0)), some (xm_i (nI i)), some (xm_i (0 : Int32)), some (xm_i (bI ((sp_111 n fi p o).1))), u7]) rfl ?_
  refine pg_145_993 rfl ?_
  refine pg_145_994 (sk20 hs) (Nat.le_of_ble_eq_true rfl) (ct_69  hs) ?_
  refine pg_145_997 rfl ?_
  refine pg_145_999 (fun _ => ?_) (fun hc => absurd g0 hc)
  refine pg_145_1004 rfl ?_
  refine pg_145_1006 (fun hc => absurd (by decide) hc) (fun _ => ?_)
  refine pg_145_1009 rfl ?_
  refine pg_145_1010 ?_
  refine pg_145_1011 (sk30 hs) (i := 0) (rfl : (0 : Int32) = nI 0) (by omega) (by omega) ?_
  refine pg_145_1012 rfl ?_
  refine pg_145_1014 (fun _ => ?_) (fun hc => absurd g1 hc)
  refine pg_145_1021 ?_
  refine pg_145_1022 ?_
  refine pg_145_1023 (fun _ => ?_) (fun hc => absurd g2 hc)
  refine pg_145_1028 ?_
  refine pg_145_1274 (y := (nI (i + 5))) (lv' := [some (xm_r (40, 0, 0)), some (xm_r (0, 0, 0)), some (xm_r (20, 0, 0)), some (xm_r (30, 0, 0)), some (xm_i (nI (i + 5))), some (xm_i (0 : Int32)), some (xm_i (bI ((sp_111 n fi p o).1))), u7]) rfl (nI_add i 5) rfl ?_
  refine pg_145_1277 ?_
  exact K _ _ _
theorem lw_13_v1 {n : Nat} {E : xm_E} {c : Nat × Nat} {fi : FI} {fl : FL} {r : xm_I → Nat → Option xm_I} {L i : Nat} {xs : Nat → Int32} {o : Nat} {p : Nat} {R : xm_O} (hs : sh n E c r) (hf : fz n fi) (hB : BZ fi) (hsc : E.1 (40, 0, 0) = (110, L)) (hL : L < 100000) (hi : i + 5 ≤ L) (hxs : ∀ j, j < L → fi (40, 0, 0) j = xs j) (hop : xs i &&& 31 = 13) (ho1 : xs (i + 1) = nI p) (ho2 : xs (i + 2) = nI o) (hp : p < n) (ho : o < n) (g0 : (sp_69 ((sp_111 n fi p o).2)) = (0 : Int32)) (g1 : ¬ (bI ((sp_111 n fi p o).1)) = 0) (g2 : (lg_cmp ((xm_up fl (30, 0, 0) 0 (if (bI (sp_60 fi p o)) = 0 then (0 : Int64) else (1 : Int64))) (30, 0, 0) 0) (1 : Int64)) = 0) (K : ∀ u5 u6 u7 : Option xm_V, xm_G E 8 true 145 43 [some (xm_r (40, 0, 0)), some (xm_r (0, 0, 0)), some (xm_r (20, 0, 0)), some (xm_r (30, 0, 0)), some (xm_i (nI (i + 5))), u5, u6, u7] [] (c, ((sp_111 n fi p o).2), (xm_up fl (30, 0, 0) 0 (if (bI (sp_60 fi p o)) = 0 then (0 : Int64) else (1 : Int64))), r) R) : ∀ u5 u6 u7 : Option xm_V, xm_G E 8 true 145 43 [some (xm_r (40, 0, 0)), some (xm_r (0, 0, 0)), some (xm_r (20, 0, 0)), some (xm_r (30, 0, 0)), some (xm_i (nI i)), u5, u6, u7] [] (c, fi, fl, r) R := by
  have hn := sh_n hs
  intro u5 u6 u7
  refine pg_145_43 rfl ?_
  refine pg_145_45 rfl ?_
  refine pg_145_46 (t := 110) (n := L) (Or.inl hsc) ?_
  refine pg_145_47 ?_
  refine pg_145_48 ?_
  refine pg_145_49 (fun hc => absurd hc (lw_go hi hL)) (fun _ => ?_)
  refine pg_145_52 rfl ?_
  refine pg_145_53 rfl ?_
  refine pg_145_55 (n := L) (Or.inr hsc) (i := i) rfl (by omega) hL ?_
  refine go_top (y := xs i) (((kp_re [2000] fi) (40, 0, 0) _ rfl).trans (hxs _ (by omega))) ?_
  refine pg_145_56 ?_
  refine pg_145_58 ?_
  refine go_top (y := (13 : Int32)) hop ?_
  refine pg_145_59 (off := 897) (t := 956) (by decide) (by decide) ?_
  refine pg_145_956 rfl ?_
  refine pg_145_957 rfl ?_
  refine pg_145_958 rfl ?_
  refine pg_145_960 ?_
  refine pg_145_961 ?_
  refine go_top (y := nI (i + 1)) (nx_add rfl (rfl : (1 : Int32) = nI 1)) ?_
  refine pg_145_962 (n := L) (Or.inr hsc) (i := (i + 1)) rfl (by omega) hL ?_
  refine go_top (y := xs (i + 1)) (((kp_re [2000] fi) (40, 0, 0) _ rfl).trans (hxs _ (by omega))) ?_
  refine go_top (y := nI p) ho1 ?_
  refine pg_145_963 rfl ?_
  refine pg_145_964 rfl ?_
  refine pg_145_966 ?_
  refine pg_145_967 ?_
  refine go_top (y := nI (i + 2)) (nx_add rfl (rfl : (2 : Int32) = nI 2)) ?_
  refine pg_145_968 (n := L) (Or.inr hsc) (i := (i + 2)) rfl (by omega) hL ?_
  refine go_top (y := xs (i + 2)) (((kp_re [2000] fi) (40, 0, 0) _ rfl).trans (hxs _ (by omega))) ?_
  refine go_top (y := nI o) ho2 ?_
  refine pg_145_969 rfl ?_
  refine pg_145_970 (Nat.le_of_ble_eq_true rfl) (ct_139v0 (p := p) (o := o) hs (by omega) (by omega)) ?_
  refine pg_145_973 (lv' := [some (xm_r (40, 0, 0)), some (xm_r (0, 0, 0)), some (xm_r (20, 0, 0)), some (xm_r (30, 0, 0)), some (xm_i (nI i)), some (xm_i (0 : Int32)), u6, u7]) rfl ?_
  refine pg_145_975 rfl ?_
  refine pg_145_976 rfl ?_
  refine pg_145_977 rfl ?_
  refine pg_145_979 ?_
  refine pg_145_980 ?_
  refine go_top (y := nI (i + 1)) (nx_add rfl (rfl : (1 : Int32) = nI 1)) ?_
  refine pg_145_981 (n := L) (Or.inr hsc) (i := (i + 1)) rfl (by omega) hL ?_
  refine go_top (y := xs (i + 1)) (((kp_re [2000] fi) (40, 0, 0) _ rfl).trans (hxs _ (by omega))) ?_
  refine go_top (y := nI p) ho1 ?_
  refine pg_145_982 rfl ?_
  refine pg_145_983 rfl ?_
  refine pg_145_985 ?_
  refine pg_145_986 ?_
  refine go_top (y := nI (i + 2)) (nx_add rfl (rfl : (2 : Int32) = nI 2)) ?_
  refine pg_145_987 (n := L) (Or.inr hsc) (i := (i + 2)) rfl (by omega) hL ?_
  refine go_top (y := xs (i + 2)) (((kp_re [2000] fi) (40, 0, 0) _ rfl).trans (hxs _ (by omega))) ?_
  refine go_top (y := nI o) ho2 ?_
  refine pg_145_988 (sk20 hs) (Nat.le_of_ble_eq_true rfl) (ct_111 (p := p) (o := o) hs (by omega) (by omega) (fz_kp hf (kp_re [2000] fi) rfl rfl rfl)) ?_
  refine pg_145_991 (lv' := [some (xm_r (40, 0, 0)), some (xm_r (0, 0, 0)), some (xm_r (20, 0, 0)), some (xm_r (30, 0, 0)), some (xm_i (nI i)), some (xm_i (0 : Int32)), some (xm_i (bI ((sp_111 n fi p o).1))), u7]) rfl ?_
  refine pg_145_993 rfl ?_
  refine pg_145_994 (sk20 hs) (Nat.le_of_ble_eq_true rfl) (ct_69  hs) ?_
  refine pg_145_997 rfl ?_
  refine pg_145_999 (fun _ => ?_) (fun hc => absurd g0 hc)
  refine pg_145_1004 rfl ?_
  refine pg_145_1006 (fun hc => absurd (by decide) hc) (fun _ => ?_)
  refine pg_145_1009 rfl ?_
  refine pg_145_1010 ?_
  refine pg_145_1011 (sk30 hs) (i := 0) (rfl : (0 : Int32) = nI 0) (by omega) (by omega) ?_
  refine pg_145_1012 rfl ?_
  refine pg_145_1014 (fun hc => absurd hc g1) (fun _ => ?_)
  refine pg_145_1017 ?_
  refine pg_145_1018 ?_
  refine pg_145_1022 ?_
  refine pg_145_1023 (fun _ => ?_) (fun hc => absurd g2 hc)
  refine pg_145_1028 ?_
  refine pg_145_1274 (y := (nI (i + 5))) (lv' := [some (xm_r (40, 0, 0)), some (xm_r (0, 0, 0)), some (xm_r (20, 0, 0)), some (xm_r (30, 0, 0)), some (xm_i (nI (i + 5))), some (xm_i (0 : Int32)), some (xm_i (bI ((sp_111 n fi p o).1))), u7]) rfl (nI_add i 5) rfl ?_
  refine pg_145_1277 ?_
  exact K _ _ _
theorem lw_13_j {n : Nat} {E : xm_E} {c : Nat × Nat} {fi : FI} {fl : FL} {r : xm_I → Nat → Option xm_I} {L i : Nat} {xs : Nat → Int32} {p : Nat} {R : xm_O} (hs : sh n E c r) (hf : fz n fi) (hB : BZ fi) (hsc : E.1 (40, 0, 0) = (110, L)) (hL : L < 100000) (hi : i + 5 ≤ L) (hxs : ∀ j, j < L → fi (40, 0, 0) j = xs j) (hop : xs i &&& 31 = 13) (ho1 : xs (i + 1) = nI p) (hp : p < n) (hx : 200 ≤ (E.1 (E.2.2 c.1)).1) (v970_v5_g0 : (bI (sp_8 n (xs (i + 2)))) = 0) (v988_g0 : ¬ (bI (sp_99 n (xs (i + 2)))) = 0) (K : ∀ u5 u6 u7 : Option xm_V, xm_G E 8 true 145 43 [some (xm_r (40, 0, 0)), some (xm_r (0, 0, 0)), some (xm_r (20, 0, 0)), some (xm_r (30, 0, 0)), some (xm_i (nI (i + 5))), u5, u6, u7] [] ((c.1 + 1, c.2 + 6), (xm_up fi (20, 0, 0) 0 (1 : Int32)), fl, r) R) : ∀ u5 u6 u7 : Option xm_V, xm_G E 8 true 145 43 [some (xm_r (40, 0, 0)), some (xm_r (0, 0, 0)), some (xm_r (20, 0, 0)), some (xm_r (30, 0, 0)), some (xm_i (nI i)), u5, u6, u7] [] (c, fi, fl, r) R := by
  have hn := sh_n hs
  intro u5 u6 u7
  refine pg_145_43 rfl ?_
  refine pg_145_45 rfl ?_
  refine pg_145_46 (t := 110) (n := L) (Or.inl hsc) ?_
  refine pg_145_47 ?_
  refine pg_145_48 ?_
  refine pg_145_49 (fun hc => absurd hc (lw_go hi hL)) (fun _ => ?_)
  refine pg_145_52 rfl ?_
  refine pg_145_53 rfl ?_
  refine pg_145_55 (n := L) (Or.inr hsc) (i := i) rfl (by omega) hL ?_
  refine go_top (y := xs i) (((kp_re [2000] fi) (40, 0, 0) _ rfl).trans (hxs _ (by omega))) ?_
  refine pg_145_56 ?_
  refine pg_145_58 ?_
  refine go_top (y := (13 : Int32)) hop ?_
  refine pg_145_59 (off := 897) (t := 956) (by decide) (by decide) ?_
  refine pg_145_956 rfl ?_
  refine pg_145_957 rfl ?_
  refine pg_145_958 rfl ?_
  refine pg_145_960 ?_
  refine pg_145_961 ?_
  refine go_top (y := nI (i + 1)) (nx_add rfl (rfl : (1 : Int32) = nI 1)) ?_
  refine pg_145_962 (n := L) (Or.inr hsc) (i := (i + 1)) rfl (by omega) hL ?_
  refine go_top (y := xs (i + 1)) (((kp_re [2000] fi) (40, 0, 0) _ rfl).trans (hxs _ (by omega))) ?_
  refine go_top (y := nI p) ho1 ?_
  refine pg_145_963 rfl ?_
  refine pg_145_964 rfl ?_
  refine pg_145_966 ?_
  refine pg_145_967 ?_
  refine go_top (y := nI (i + 2)) (nx_add rfl (rfl : (2 : Int32) = nI 2)) ?_
  refine pg_145_968 (n := L) (Or.inr hsc) (i := (i + 2)) rfl (by omega) hL ?_
  refine go_top (y := xs (i + 2)) (((kp_re [2000] fi) (40, 0, 0) _ rfl).trans (hxs _ (by omega))) ?_
  refine pg_145_969 rfl ?_
  refine pg_145_970 (Nat.le_of_ble_eq_true rfl) (ct_139j0 (p := p) (y := (xs (i + 2))) hs (by omega) hx v970_v5_g0) ?_
  have hs := sh_up hs
  refine pg_145_973 (lv' := [some (xm_r (40, 0, 0)), some (xm_r (0, 0, 0)), some (xm_r (20, 0, 0)), some (xm_r (30, 0, 0)), some (xm_i (nI i)), some (xm_i (1 : Int32)), u6, u7]) rfl ?_
  refine pg_145_975 rfl ?_
  refine pg_145_976 rfl ?_
  refine pg_145_977 rfl ?_
  refine pg_145_979 ?_
  refine pg_145_980 ?_
  refine go_top (y := nI (i + 1)) (nx_add rfl (rfl : (1 : Int32) = nI 1)) ?_
  refine pg_145_981 (n := L) (Or.inr hsc) (i := (i + 1)) rfl (by omega) hL ?_
  refine go_top (y := xs (i + 1)) (((kp_re [2000] fi) (40, 0, 0) _ rfl).trans (hxs _ (by omega))) ?_
  refine go_top (y := nI p) ho1 ?_
  refine pg_145_982 rfl ?_
  refine pg_145_983 rfl ?_
  refine pg_145_985 ?_
  refine pg_145_986 ?_
  refine go_top (y := nI (i + 2)) (nx_add rfl (rfl : (2 : Int32) = nI 2)) ?_
  refine pg_145_987 (n := L) (Or.inr hsc) (i := (i + 2)) rfl (by omega) hL ?_
  refine go_top (y := xs (i + 2)) (((kp_re [2000] fi) (40, 0, 0) _ rfl).trans (hxs _ (by omega))) ?_
  refine pg_145_988 (sk20 hs) (Nat.le_of_ble_eq_true rfl) (ct_111j0 (p := p) (y := (xs (i + 2))) hs (by omega) (fz_kp hf (kp_re [2000] fi) rfl rfl rfl) v988_g0) ?_
  refine pg_145_991 (lv' := [some (xm_r (40, 0, 0)), some (xm_r (0, 0, 0)), some (xm_r (20, 0, 0)), some (xm_r (30, 0, 0)), some (xm_i (nI i)), some (xm_i (1 : Int32)), some (xm_i (0 : Int32)), u7]) rfl ?_
  refine pg_145_993 rfl ?_
  refine pg_145_994 (sk20 hs) (Nat.le_of_ble_eq_true rfl) (ct_69  hs) ?_
  refine go_top (y := (1 : Int32)) (by unfold sp_69; simp [xm_up]) ?_
  refine pg_145_997 rfl ?_
  refine pg_145_999 (fun _ => ?_) (fun hc => absurd (by decide) hc)
  refine pg_145_1004 rfl ?_
  refine pg_145_1006 (fun _ => ?_) (fun hc => absurd hc (by decide))
  refine pg_145_1028 ?_
  refine pg_145_1274 (y := (nI (i + 5))) (lv' := [some (xm_r (40, 0, 0)), some (xm_r (0, 0, 0)), some (xm_r (20, 0, 0)), some (xm_r (30, 0, 0)), some (xm_i (nI (i + 5))), some (xm_i (1 : Int32)), some (xm_i (0 : Int32)), u7]) rfl (nI_add i 5) rfl ?_
  refine pg_145_1277 ?_
  exact K _ _ _
theorem lw_13_i {n : Nat} {E : xm_E} {c : Nat × Nat} {fi : FI} {fl : FL} {r : xm_I → Nat → Option xm_I} {L i : Nat} {xs : Nat → Int32} {R : xm_O} (hs : sh n E c r) (hf : fz n fi) (hB : BZ fi) (hsc : E.1 (40, 0, 0) = (110, L)) (hL : L < 100000) (hi : i + 5 ≤ L) (hxs : ∀ j, j < L → fi (40, 0, 0) j = xs j) (hop : xs i &&& 31 = 13) (hx : 200 ≤ (E.1 (E.2.2 c.1)).1) (v970_v5_g0 : (bI (sp_8 n (xs (i + 1)))) = 0) (v988_g0 : ¬ (bI (sp_99 n (xs (i + 1)))) = 0) (K : ∀ u5 u6 u7 : Option xm_V, xm_G E 8 true 145 43 [some (xm_r (40, 0, 0)), some (xm_r (0, 0, 0)), some (xm_r (20, 0, 0)), some (xm_r (30, 0, 0)), some (xm_i (nI (i + 5))), u5, u6, u7] [] ((c.1 + 1, c.2 + 6), (xm_up fi (20, 0, 0) 0 (1 : Int32)), fl, r) R) : ∀ u5 u6 u7 : Option xm_V, xm_G E 8 true 145 43 [some (xm_r (40, 0, 0)), some (xm_r (0, 0, 0)), some (xm_r (20, 0, 0)), some (xm_r (30, 0, 0)), some (xm_i (nI i)), u5, u6, u7] [] (c, fi, fl, r) R := by
  have hn := sh_n hs
  intro u5 u6 u7
  refine pg_145_43 rfl ?_
  refine pg_145_45 rfl ?_
  refine pg_145_46 (t := 110) (n := L) (Or.inl hsc) ?_
  refine pg_145_47 ?_
  refine pg_145_48 ?_
  refine pg_145_49 (fun hc => absurd hc (lw_go hi hL)) (fun _ => ?_)
  refine pg_145_52 rfl ?_
  refine pg_145_53 rfl ?_
  refine pg_145_55 (n := L) (Or.inr hsc) (i := i) rfl (by omega) hL ?_
  refine go_top (y := xs i) (((kp_re [2000] fi) (40, 0, 0) _ rfl).trans (hxs _ (by omega))) ?_
  refine pg_145_56 ?_
  refine pg_145_58 ?_
  refine go_top (y := (13 : Int32)) hop ?_
  refine pg_145_59 (off := 897) (t := 956) (by decide) (by decide) ?_
  refine pg_145_956 rfl ?_
  refine pg_145_957 rfl ?_
  refine pg_145_958 rfl ?_
  refine pg_145_960 ?_
  refine pg_145_961 ?_
  refine go_top (y := nI (i + 1)) (nx_add rfl (rfl : (1 : Int32) = nI 1)) ?_
  refine pg_145_962 (n := L) (Or.inr hsc) (i := (i + 1)) rfl (by omega) hL ?_
  refine go_top (y := xs (i + 1)) (((kp_re [2000] fi) (40, 0, 0) _ rfl).trans (hxs _ (by omega))) ?_
  refine pg_145_963 rfl ?_
  refine pg_145_964 rfl ?_
  refine pg_145_966 ?_
  refine pg_145_967 ?_
  refine go_top (y := nI (i + 2)) (nx_add rfl (rfl : (2 : Int32) = nI 2)) ?_
  refine pg_145_968 (n := L) (Or.inr hsc) (i := (i + 2)) rfl (by omega) hL ?_
  refine go_top (y := xs (i + 2)) (((kp_re [2000] fi) (40, 0, 0) _ rfl).trans (hxs _ (by omega))) ?_
  refine pg_145_969 rfl ?_
  refine pg_145_970 (Nat.le_of_ble_eq_true rfl) (ct_139i0 (x := (xs (i + 1))) (y := (xs (i + 2))) hs hx v970_v5_g0) ?_
  have hs := sh_up hs
  refine pg_145_973 (lv' := [some (xm_r (40, 0, 0)), some (xm_r (0, 0, 0)), some (xm_r (20, 0, 0)), some (xm_r (30, 0, 0)), some (xm_i (nI i)), some (xm_i (1 : Int32)), u6, u7]) rfl ?_
  refine pg_145_975 rfl ?_
  refine pg_145_976 rfl ?_
  refine pg_145_977 rfl ?_
  refine pg_145_979 ?_
  refine pg_145_980 ?_
  refine go_top (y := nI (i + 1)) (nx_add rfl (rfl : (1 : Int32) = nI 1)) ?_
  refine pg_145_981 (n := L) (Or.inr hsc) (i := (i + 1)) rfl (by omega) hL ?_
  refine go_top (y := xs (i + 1)) (((kp_re [2000] fi) (40, 0, 0) _ rfl).trans (hxs _ (by omega))) ?_
  refine pg_145_982 rfl ?_
  refine pg_145_983 rfl ?_
  refine pg_145_985 ?_
  refine pg_145_986 ?_
  refine go_top (y := nI (i + 2)) (nx_add rfl (rfl : (2 : Int32) = nI 2)) ?_
  refine pg_145_987 (n := L) (Or.inr hsc) (i := (i + 2)) rfl (by omega) hL ?_
  refine go_top (y := xs (i + 2)) (((kp_re [2000] fi) (40, 0, 0) _ rfl).trans (hxs _ (by omega))) ?_
  refine pg_145_988 (sk20 hs) (Nat.le_of_ble_eq_true rfl) (ct_111i1 (x := (xs (i + 1))) (y := (xs (i + 2))) hs (fz_kp hf (kp_re [2000] fi) rfl rfl rfl) v988_g0) ?_
  refine pg_145_991 (lv' := [some (xm_r (40, 0, 0)), some (xm_r (0, 0, 0)), some (xm_r (20, 0, 0)), some (xm_r (30, 0, 0)), some (xm_i (nI i)), some (xm_i (1 : Int32)), some (xm_i (0 : Int32)), u7]) rfl ?_
  refine pg_145_993 rfl ?_
  refine pg_145_994 (sk20 hs) (Nat.le_of_ble_eq_true rfl) (ct_69  hs) ?_
  refine go_top (y := (1 : Int32)) (by unfold sp_69; simp [xm_up]) ?_
  refine pg_145_997 rfl ?_
  refine pg_145_999 (fun _ => ?_) (fun hc => absurd (by decide) hc)
  refine pg_145_1004 rfl ?_
  refine pg_145_1006 (fun _ => ?_) (fun hc => absurd hc (by decide))
  refine pg_145_1028 ?_
  refine pg_145_1274 (y := (nI (i + 5))) (lv' := [some (xm_r (40, 0, 0)), some (xm_r (0, 0, 0)), some (xm_r (20, 0, 0)), some (xm_r (30, 0, 0)), some (xm_i (nI (i + 5))), some (xm_i (1 : Int32)), some (xm_i (0 : Int32)), u7]) rfl (nI_add i 5) rfl ?_
  refine pg_145_1277 ?_
  exact K _ _ _
theorem lw_14_l {n : Nat} {E : xm_E} {c : Nat × Nat} {fi : FI} {fl : FL} {r : xm_I → Nat → Option xm_I} {L i : Nat} {xs : Nat → Int32} {R : xm_O} (hs : sh n E c r) (hf : fz n fi) (hB : BZ fi) (hsc : E.1 (40, 0, 0) = (110, L)) (hL : L < 100000) (hi : i + 5 ≤ L) (hxs : ∀ j, j < L → fi (40, 0, 0) j = xs j) (hop : xs i &&& 31 = 14) (g0 : (fi (0, 0, 0) 5) = (fi (20, 0, 0) 21)) (K : ∀ u5 u6 u7 : Option xm_V, xm_G E 8 true 145 43 [some (xm_r (40, 0, 0)), some (xm_r (0, 0, 0)), some (xm_r (20, 0, 0)), some (xm_r (30, 0, 0)), some (xm_i (nI (i + 5))), u5, u6, u7] [] (c, (xm_up fi (20, 0, 0) 0 (0 : Int32)), fl, r) R) : ∀ u5 u6 u7 : Option xm_V, xm_G E 8 true 145 43 [some (xm_r (40, 0, 0)), some (xm_r (0, 0, 0)), some (xm_r (20, 0, 0)), some (xm_r (30, 0, 0)), some (xm_i (nI i)), u5, u6, u7] [] (c, fi, fl, r) R := by
  have hn := sh_n hs
  intro u5 u6 u7
  refine pg_145_43 rfl ?_
  refine pg_145_45 rfl ?_
  refine pg_145_46 (t := 110) (n := L) (Or.inl hsc) ?_
  refine pg_145_47 ?_
  refine pg_145_48 ?_
  refine pg_145_49 (fun hc => absurd hc (lw_go hi hL)) (fun _ => ?_)
  refine pg_145_52 rfl ?_
  refine pg_145_53 rfl ?_
  refine pg_145_55 (n := L) (Or.inr hsc) (i := i) rfl (by omega) hL ?_
  refine go_top (y := xs i) (((kp_re [2000] fi) (40, 0, 0) _ rfl).trans (hxs _ (by omega))) ?_
  refine pg_145_56 ?_
  refine pg_145_58 ?_
  refine go_top (y := (14 : Int32)) hop ?_
  refine pg_145_59 (off := 972) (t := 1031) (by decide) (by decide) ?_
  refine pg_145_1031 rfl ?_
  refine pg_145_1032 (sk0 hs) (Nat.le_of_ble_eq_true rfl) (ct_3l0  hs) ?_
  refine pg_145_1035 rfl ?_
  refine pg_145_1036 (sk20 hs) (Nat.le_of_ble_eq_true rfl) (ct_112l0  hs) ?_
  refine pg_145_1039 (fun _ => ?_) (fun hc => absurd g0 hc)
  refine pg_145_1274 (y := (nI (i + 5))) (lv' := [some (xm_r (40, 0, 0)), some (xm_r (0, 0, 0)), some (xm_r (20, 0, 0)), some (xm_r (30, 0, 0)), some (xm_i (nI (i + 5))), u5, u6, u7]) rfl (nI_add i 5) rfl ?_
  refine pg_145_1277 ?_
  exact K _ _ _
theorem lw_15_l {n : Nat} {E : xm_E} {c : Nat × Nat} {fi : FI} {fl : FL} {r : xm_I → Nat → Option xm_I} {L i : Nat} {xs : Nat → Int32} {R : xm_O} (hs : sh n E c r) (hf : fz n fi) (hB : BZ fi) (hsc : E.1 (40, 0, 0) = (110, L)) (hL : L < 100000) (hi : i + 5 ≤ L) (hxs : ∀ j, j < L → fi (40, 0, 0) j = xs j) (hop : xs i &&& 31 = 15) (g0 : (fi (0, 0, 0) 6) = (fi (20, 0, 0) 22)) (K : ∀ u5 u6 u7 : Option xm_V, xm_G E 8 true 145 43 [some (xm_r (40, 0, 0)), some (xm_r (0, 0, 0)), some (xm_r (20, 0, 0)), some (xm_r (30, 0, 0)), some (xm_i (nI (i + 5))), u5, u6, u7] [] (c, (xm_up fi (20, 0, 0) 0 (0 : Int32)), fl, r) R) : ∀ u5 u6 u7 : Option xm_V, xm_G E 8 true 145 43 [some (xm_r (40, 0, 0)), some (xm_r (0, 0, 0)), some (xm_r (20, 0, 0)), some (xm_r (30, 0, 0)), some (xm_i (nI i)), u5, u6, u7] [] (c, fi, fl, r) R := by
  have hn := sh_n hs
  intro u5 u6 u7
  refine pg_145_43 rfl ?_
  refine pg_145_45 rfl ?_
  refine pg_145_46 (t := 110) (n := L) (Or.inl hsc) ?_
  refine pg_145_47 ?_
  refine pg_145_48 ?_
  refine pg_145_49 (fun hc => absurd hc (lw_go hi hL)) (fun _ => ?_)
  refine pg_145_52 rfl ?_
  refine pg_145_53 rfl ?_
  refine pg_145_55 (n := L) (Or.inr hsc) (i := i) rfl (by omega) hL ?_
  refine go_top (y := xs i) (((kp_re [2000] fi) (40, 0, 0) _ rfl).trans (hxs _ (by omega))) ?_
  refine pg_145_56 ?_
  refine pg_145_58 ?_
  refine go_top (y := (15 : Int32)) hop ?_
  refine pg_145_59 (off := 985) (t := 1044) (by decide) (by decide) ?_
  refine pg_145_1044 rfl ?_
  refine pg_145_1045 (sk0 hs) (Nat.le_of_ble_eq_true rfl) (ct_4l0  hs) ?_
  refine pg_145_1048 rfl ?_
  refine pg_145_1049 (sk20 hs) (Nat.le_of_ble_eq_true rfl) (ct_113l0  hs) ?_
  refine pg_145_1052 (fun _ => ?_) (fun hc => absurd g0 hc)
  refine pg_145_1274 (y := (nI (i + 5))) (lv' := [some (xm_r (40, 0, 0)), some (xm_r (0, 0, 0)), some (xm_r (20, 0, 0)), some (xm_r (30, 0, 0)), some (xm_i (nI (i + 5))), u5, u6, u7]) rfl (nI_add i 5) rfl ?_
  refine pg_145_1277 ?_
  exact K _ _ _
theorem lw_16_l {n : Nat} {E : xm_E} {c : Nat × Nat} {fi : FI} {fl : FL} {r : xm_I → Nat → Option xm_I} {L i : Nat} {xs : Nat → Int32} {R : xm_O} (hs : sh n E c r) (hf : fz n fi) (hB : BZ fi) (hsc : E.1 (40, 0, 0) = (110, L)) (hL : L < 100000) (hi : i + 5 ≤ L) (hxs : ∀ j, j < L → fi (40, 0, 0) j = xs j) (hop : xs i &&& 31 = 16) (g0 : (fi (2, 0, 0) 3) = (fi (20, 0, 0) 23)) (K : ∀ u5 u6 u7 : Option xm_V, xm_G E 8 true 145 43 [some (xm_r (40, 0, 0)), some (xm_r (0, 0, 0)), some (xm_r (20, 0, 0)), some (xm_r (30, 0, 0)), some (xm_i (nI (i + 5))), u5, u6, u7] [] (c, (xm_up fi (20, 0, 0) 0 (0 : Int32)), fl, r) R) : ∀ u5 u6 u7 : Option xm_V, xm_G E 8 true 145 43 [some (xm_r (40, 0, 0)), some (xm_r (0, 0, 0)), some (xm_r (20, 0, 0)), some (xm_r (30, 0, 0)), some (xm_i (nI i)), u5, u6, u7] [] (c, fi, fl, r) R := by
  have hn := sh_n hs
  intro u5 u6 u7
  refine pg_145_43 rfl ?_
  refine pg_145_45 rfl ?_
  refine pg_145_46 (t := 110) (n := L) (Or.inl hsc) ?_
  refine pg_145_47 ?_
  refine pg_145_48 ?_
  refine pg_145_49 (fun hc => absurd hc (lw_go hi hL)) (fun _ => ?_)
  refine pg_145_52 rfl ?_
  refine pg_145_53 rfl ?_
  refine pg_145_55 (n := L) (Or.inr hsc) (i := i) rfl (by omega) hL ?_
  refine go_top (y := xs i) (((kp_re [2000] fi) (40, 0, 0) _ rfl).trans (hxs _ (by omega))) ?_
  refine pg_145_56 ?_
  refine pg_145_58 ?_
  refine go_top (y := (16 : Int32)) hop ?_
  refine pg_145_59 (off := 998) (t := 1057) (by decide) (by decide) ?_
  refine pg_145_1057 rfl ?_
  refine pg_145_1058 (sk0 hs) (Nat.le_of_ble_eq_true rfl) (ct_5l0  hs) ?_
  refine pg_145_1061 rfl ?_
  refine pg_145_1062 (sk20 hs) (Nat.le_of_ble_eq_true rfl) (ct_114l0  hs) ?_
  refine pg_145_1065 (fun _ => ?_) (fun hc => absurd g0 hc)
  refine pg_145_1274 (y := (nI (i + 5))) (lv' := [some (xm_r (40, 0, 0)), some (xm_r (0, 0, 0)), some (xm_r (20, 0, 0)), some (xm_r (30, 0, 0)), some (xm_i (nI (i + 5))), u5, u6, u7]) rfl (nI_add i 5) rfl ?_
  refine pg_145_1277 ?_
  exact K _ _ _
theorem lw_17_v {n : Nat} {E : xm_E} {c : Nat × Nat} {fi : FI} {fl : FL} {r : xm_I → Nat → Option xm_I} {L i : Nat} {xs : Nat → Int32} {p : Nat} {R : xm_O} (hs : sh n E c r) (hf : fz n fi) (hB : BZ fi) (hsc : E.1 (40, 0, 0) = (110, L)) (hL : L < 100000) (hi : i + 5 ≤ L) (hxs : ∀ j, j < L → fi (40, 0, 0) j = xs j) (hop : xs i &&& 31 = 17) (ho1 : xs (i + 1) = nI p) (hp : p < n) (g0 : (lg_cmp ((xm_up fl (30, 0, 0) 0 ((fi (5, 0, 0) p).toInt64)) (30, 0, 0) 0) ((fi (21, 24, 0) p).toInt64)) = 0) (v1090_g0 : ¬ (nI p) < 0) (v1090_g1 : (nI p) ≤ (nI n)) (K : ∀ u5 u6 u7 : Option xm_V, xm_G E 8 true 145 43 [some (xm_r (40, 0, 0)), some (xm_r (0, 0, 0)), some (xm_r (20, 0, 0)), some (xm_r (30, 0, 0)), some (xm_i (nI (i + 5))), u5, u6, u7] [] (c, (xm_up fi (20, 0, 0) 0 (0 : Int32)), (xm_up fl (30, 0, 0) 0 ((fi (5, 0, 0) p).toInt64)), r) R) : ∀ u5 u6 u7 : Option xm_V, xm_G E 8 true 145 43 [some (xm_r (40, 0, 0)), some (xm_r (0, 0, 0)), some (xm_r (20, 0, 0)), some (xm_r (30, 0, 0)), some (xm_i (nI i)), u5, u6, u7] [] (c, fi, fl, r) R := by
  have hn := sh_n hs
  intro u5 u6 u7
  refine pg_145_43 rfl ?_
  refine pg_145_45 rfl ?_
  refine pg_145_46 (t := 110) (n := L) (Or.inl hsc) ?_
  refine pg_145_47 ?_
  refine pg_145_48 ?_
  refine pg_145_49 (fun hc => absurd hc (lw_go hi hL)) (fun _ => ?_)
  refine pg_145_52 rfl ?_
  refine pg_145_53 rfl ?_
  refine pg_145_55 (n := L) (Or.inr hsc) (i := i) rfl (by omega) hL ?_
  refine go_top (y := xs i) (((kp_re [2000] fi) (40, 0, 0) _ rfl).trans (hxs _ (by omega))) ?_
  refine pg_145_56 ?_
  refine pg_145_58 ?_
  refine go_top (y := (17 : Int32)) hop ?_
  refine pg_145_59 (off := 1011) (t := 1070) (by decide) (by decide) ?_
  refine pg_145_1070 rfl ?_
  refine pg_145_1071 rfl ?_
  refine pg_145_1072 rfl ?_
  refine pg_145_1074 ?_
  refine pg_145_1075 ?_
  refine go_top (y := nI (i + 1)) (nx_add rfl (rfl : (1 : Int32) = nI 1)) ?_
  refine pg_145_1076 (n := L) (Or.inr hsc) (i := (i + 1)) rfl (by omega) hL ?_
  refine go_top (y := xs (i + 1)) (((kp_re [2000] fi) (40, 0, 0) _ rfl).trans (hxs _ (by omega))) ?_
  refine go_top (y := nI p) ho1 ?_
  refine pg_145_1077 rfl ?_
  refine pg_145_1078 (Nat.le_of_ble_eq_true rfl) (ct_140v0 (p := p) hs (by omega)) ?_
  refine pg_145_1081 (lv' := [some (xm_r (40, 0, 0)), some (xm_r (0, 0, 0)), some (xm_r (20, 0, 0)), some (xm_r (30, 0, 0)), some (xm_i (nI i)), some (xm_i (0 : Int32)), u6, u7]) rfl ?_
  refine pg_145_1083 rfl ?_
  refine pg_145_1084 rfl ?_
  refine pg_145_1085 rfl ?_
  refine pg_145_1087 ?_
  refine pg_145_1088 ?_
  refine go_top (y := nI (i + 1)) (nx_add rfl (rfl : (1 : Int32) = nI 1)) ?_
  refine pg_145_1089 (n := L) (Or.inr hsc) (i := (i + 1)) rfl (by omega) hL ?_
  refine go_top (y := xs (i + 1)) (((kp_re [2000] fi) (40, 0, 0) _ rfl).trans (hxs _ (by omega))) ?_
  refine go_top (y := nI p) ho1 ?_
  refine pg_145_1090 (sk20 hs) (Nat.le_of_ble_eq_true rfl) (ct_115v1 (p := p) hs (by omega) (fz_kp hf (kp_re [2000] fi) rfl rfl rfl) v1090_g0 v1090_g1) ?_
  refine pg_145_1093 (lv' := [some (xm_r (40, 0, 0)), some (xm_r (0, 0, 0)), some (xm_r (20, 0, 0)), some (xm_r (30, 0, 0)), some (xm_i (nI i)), some (xm_i (0 : Int32)), some (xm_i (fi (21, 24, 0) p)), u7]) rfl ?_
  refine pg_145_1095 rfl ?_
  refine pg_145_1096 (sk20 hs) (Nat.le_of_ble_eq_true rfl) (ct_69  hs) ?_
  refine go_top (y := (0 : Int32)) (by unfold sp_69; simp [xm_up]) ?_
  refine pg_145_1099 rfl ?_
  refine pg_145_1101 (fun _ => ?_) (fun hc => absurd (by decide) hc)
  refine pg_145_1106 rfl ?_
  refine pg_145_1108 (fun hc => absurd (by decide) hc) (fun _ => ?_)
  refine pg_145_1111 rfl ?_
  refine pg_145_1112 ?_
  refine pg_145_1113 (sk30 hs) (i := 0) (rfl : (0 : Int32) = nI 0) (by omega) (by omega) ?_
  refine pg_145_1114 rfl ?_
  refine pg_145_1116 ?_
  refine pg_145_1117 ?_
  refine pg_145_1118 (fun _ => ?_) (fun hc => absurd g0 hc)
  refine pg_145_1123 ?_
  refine pg_145_1274 (y := (nI (i + 5))) (lv' := [some (xm_r (40, 0, 0)), some (xm_r (0, 0, 0)), some (xm_r (20, 0, 0)), some (xm_r (30, 0, 0)), some (xm_i (nI (i + 5))), some (xm_i (0 : Int32)), some (xm_i (fi (21, 24, 0) p)), u7]) rfl (nI_add i 5) rfl ?_
  refine pg_145_1277 ?_
  exact K _ _ _
theorem lw_17_a {n : Nat} {E : xm_E} {c : Nat × Nat} {fi : FI} {fl : FL} {r : xm_I → Nat → Option xm_I} {L i : Nat} {xs : Nat → Int32} {m : Nat} {R : xm_O} (hs : sh n E c r) (hf : fz n fi) (hB : BZ fi) (hsc : E.1 (40, 0, 0) = (110, L)) (hL : L < 100000) (hi : i + 5 ≤ L) (hxs : ∀ j, j < L → fi (40, 0, 0) j = xs j) (hop : xs i &&& 31 = 17) (ho1 : xs (i + 1) = nI m) (hm : m = n) (g0 : (lg_cmp ((xm_up fl (30, 0, 0) 0 ((fi (5, 0, 0) m).toInt64)) (30, 0, 0) 0) ((fi (21, 24, 0) m).toInt64)) = 0) (v1078_v4_g0 : (bI (sp_8 n (nI m))) = 0) (v1078_v4_g1 : (nI m) = (nI (sp_21 n))) (v1090_g0 : ¬ (nI m) < 0) (v1090_g1 : (nI m) ≤ (nI n)) (K : ∀ u5 u6 u7 : Option xm_V, xm_G E 8 true 145 43 [some (xm_r (40, 0, 0)), some (xm_r (0, 0, 0)), some (xm_r (20, 0, 0)), some (xm_r (30, 0, 0)), some (xm_i (nI (i + 5))), u5, u6, u7] [] (c, (xm_up fi (20, 0, 0) 0 (0 : Int32)), (xm_up fl (30, 0, 0) 0 ((fi (5, 0, 0) m).toInt64)), r) R) : ∀ u5 u6 u7 : Option xm_V, xm_G E 8 true 145 43 [some (xm_r (40, 0, 0)), some (xm_r (0, 0, 0)), some (xm_r (20, 0, 0)), some (xm_r (30, 0, 0)), some (xm_i (nI i)), u5, u6, u7] [] (c, fi, fl, r) R := by
  have hn := sh_n hs
  intro u5 u6 u7
  refine pg_145_43 rfl ?_
  refine pg_145_45 rfl ?_
  refine pg_145_46 (t := 110) (n := L) (Or.inl hsc) ?_
  refine pg_145_47 ?_
  refine pg_145_48 ?_
  refine pg_145_49 (fun hc => absurd hc (lw_go hi hL)) (fun _ => ?_)
  refine pg_145_52 rfl ?_
  refine pg_145_53 rfl ?_
  refine pg_145_55 (n := L) (Or.inr hsc) (i := i) rfl (by omega) hL ?_
  refine go_top (y := xs i) (((kp_re [2000] fi) (40, 0, 0) _ rfl).trans (hxs _ (by omega))) ?_
  refine pg_145_56 ?_
  refine pg_145_58 ?_
  refine go_top (y := (17 : Int32)) hop ?_
  refine pg_145_59 (off := 1011) (t := 1070) (by decide) (by decide) ?_
  refine pg_145_1070 rfl ?_
  refine pg_145_1071 rfl ?_
  refine pg_145_1072 rfl ?_
  refine pg_145_1074 ?_
  refine pg_145_1075 ?_
  refine go_top (y := nI (i + 1)) (nx_add rfl (rfl : (1 : Int32) = nI 1)) ?_
  refine pg_145_1076 (n := L) (Or.inr hsc) (i := (i + 1)) rfl (by omega) hL ?_
  refine go_top (y := xs (i + 1)) (((kp_re [2000] fi) (40, 0, 0) _ rfl).trans (hxs _ (by omega))) ?_
  refine go_top (y := nI m) ho1 ?_
  refine pg_145_1077 rfl ?_
  refine pg_145_1078 (Nat.le_of_ble_eq_true rfl) (ct_140a0 (m := m) hs hm v1078_v4_g0 v1078_v4_g1) ?_
  refine pg_145_1081 (lv' := [some (xm_r (40, 0, 0)), some (xm_r (0, 0, 0)), some (xm_r (20, 0, 0)), some (xm_r (30, 0, 0)), some (xm_i (nI i)), some (xm_i (0 : Int32)), u6, u7]) rfl ?_
  refine pg_145_1083 rfl ?_
  refine pg_145_1084 rfl ?_
  refine pg_145_1085 rfl ?_
  refine pg_145_1087 ?_
  refine pg_145_1088 ?_
  refine go_top (y := nI (i + 1)) (nx_add rfl (rfl : (1 : Int32) = nI 1)) ?_
  refine pg_145_1089 (n := L) (Or.inr hsc) (i := (i + 1)) rfl (by omega) hL ?_
  refine go_top (y := xs (i + 1)) (((kp_re [2000] fi) (40, 0, 0) _ rfl).trans (hxs _ (by omega))) ?_
  refine go_top (y := nI m) ho1 ?_
  refine pg_145_1090 (sk20 hs) (Nat.le_of_ble_eq_true rfl) (ct_115v1 (p := m) hs (by omega) (fz_kp hf (kp_re [2000] fi) rfl rfl rfl) v1090_g0 v1090_g1) ?_
  refine pg_145_1093 (lv' := [some (xm_r (40, 0, 0)), some (xm_r (0, 0, 0)), some (xm_r (20, 0, 0)), some (xm_r (30, 0, 0)), some (xm_i (nI i)), some (xm_i (0 : Int32)), some (xm_i (fi (21, 24, 0) m)), u7]) rfl ?_
  refine pg_145_1095 rfl ?_
  refine pg_145_1096 (sk20 hs) (Nat.le_of_ble_eq_true rfl) (ct_69  hs) ?_
  refine go_top (y := (0 : Int32)) (by unfold sp_69; simp [xm_up]) ?_
  refine pg_145_1099 rfl ?_
  refine pg_145_1101 (fun _ => ?_) (fun hc => absurd (by decide) hc)
  refine pg_145_1106 rfl ?_
  refine pg_145_1108 (fun hc => absurd (by decide) hc) (fun _ => ?_)
  refine pg_145_1111 rfl ?_
  refine pg_145_1112 ?_
  refine pg_145_1113 (sk30 hs) (i := 0) (rfl : (0 : Int32) = nI 0) (by omega) (by omega) ?_
  refine pg_145_1114 rfl ?_
  refine pg_145_1116 ?_
  refine pg_145_1117 ?_
  refine pg_145_1118 (fun _ => ?_) (fun hc => absurd g0 hc)
  refine pg_145_1123 ?_
  refine pg_145_1274 (y := (nI (i + 5))) (lv' := [some (xm_r (40, 0, 0)), some (xm_r (0, 0, 0)), some (xm_r (20, 0, 0)), some (xm_r (30, 0, 0)), some (xm_i (nI (i + 5))), some (xm_i (0 : Int32)), some (xm_i (fi (21, 24, 0) m)), u7]) rfl (nI_add i 5) rfl ?_
  refine pg_145_1277 ?_
  exact K _ _ _
theorem lw_17_i0 {n : Nat} {E : xm_E} {c : Nat × Nat} {fi : FI} {fl : FL} {r : xm_I → Nat → Option xm_I} {L i : Nat} {xs : Nat → Int32} {R : xm_O} (hs : sh n E c r) (hf : fz n fi) (hB : BZ fi) (hsc : E.1 (40, 0, 0) = (110, L)) (hL : L < 100000) (hi : i + 5 ≤ L) (hxs : ∀ j, j < L → fi (40, 0, 0) j = xs j) (hop : xs i &&& 31 = 17) (hx : 200 ≤ (E.1 (E.2.2 c.1)).1) (v1078_v4_g0 : (bI (sp_8 n (xs (i + 1)))) = 0) (v1078_v4_g1 : ¬ (xs (i + 1)) = (nI (sp_21 n))) (v1090_g0 : (xs (i + 1)) < 0) (K : ∀ u5 u6 u7 : Option xm_V, xm_G E 8 true 145 43 [some (xm_r (40, 0, 0)), some (xm_r (0, 0, 0)), some (xm_r (20, 0, 0)), some (xm_r (30, 0, 0)), some (xm_i (nI (i + 5))), u5, u6, u7] [] ((c.1 + 1, c.2 + 6), (xm_up fi (20, 0, 0) 0 (1 : Int32)), fl, r) R) : ∀ u5 u6 u7 : Option xm_V, xm_G E 8 true 145 43 [some (xm_r (40, 0, 0)), some (xm_r (0, 0, 0)), some (xm_r (20, 0, 0)), some (xm_r (30, 0, 0)), some (xm_i (nI i)), u5, u6, u7] [] (c, fi, fl, r) R := by
  have hn := sh_n hs
  intro u5 u6 u7
  refine pg_145_43 rfl ?_
  refine pg_145_45 rfl ?_
  refine pg_145_46 (t := 110) (n := L) (Or.inl hsc) ?_
  refine pg_145_47 ?_
  refine pg_145_48 ?_
  refine pg_145_49 (fun hc => absurd hc (lw_go hi hL)) (fun _ => ?_)
  refine pg_145_52 rfl ?_
  refine pg_145_53 rfl ?_
  refine pg_145_55 (n := L) (Or.inr hsc) (i := i) rfl (by omega) hL ?_
  refine go_top (y := xs i) (((kp_re [2000] fi) (40, 0, 0) _ rfl).trans (hxs _ (by omega))) ?_
  refine pg_145_56 ?_
  refine pg_145_58 ?_
  refine go_top (y := (17 : Int32)) hop ?_
  refine pg_145_59 (off := 1011) (t := 1070) (by decide) (by decide) ?_
  refine pg_145_1070 rfl ?_
  refine pg_145_1071 rfl ?_
  refine pg_145_1072 rfl ?_
  refine pg_145_1074 ?_
  refine pg_145_1075 ?_
  refine go_top (y := nI (i + 1)) (nx_add rfl (rfl : (1 : Int32) = nI 1)) ?_
  refine pg_145_1076 (n := L) (Or.inr hsc) (i := (i + 1)) rfl (by omega) hL ?_
  refine go_top (y := xs (i + 1)) (((kp_re [2000] fi) (40, 0, 0) _ rfl).trans (hxs _ (by omega))) ?_
  refine pg_145_1077 rfl ?_
  refine pg_145_1078 (Nat.le_of_ble_eq_true rfl) (ct_140i0 (x := (xs (i + 1))) hs hx v1078_v4_g0 v1078_v4_g1) ?_
  have hs := sh_up hs
  refine pg_145_1081 (lv' := [some (xm_r (40, 0, 0)), some (xm_r (0, 0, 0)), some (xm_r (20, 0, 0)), some (xm_r (30, 0, 0)), some (xm_i (nI i)), some (xm_i (1 : Int32)), u6, u7]) rfl ?_
  refine pg_145_1083 rfl ?_
  refine pg_145_1084 rfl ?_
  refine pg_145_1085 rfl ?_
  refine pg_145_1087 ?_
  refine pg_145_1088 ?_
  refine go_top (y := nI (i + 1)) (nx_add rfl (rfl : (1 : Int32) = nI 1)) ?_
  refine pg_145_1089 (n := L) (Or.inr hsc) (i := (i + 1)) rfl (by omega) hL ?_
  refine go_top (y := xs (i + 1)) (((kp_re [2000] fi) (40, 0, 0) _ rfl).trans (hxs _ (by omega))) ?_
  refine pg_145_1090 (sk20 hs) (Nat.le_of_ble_eq_true rfl) (ct_115i0 (x := (xs (i + 1))) hs (fz_kp hf (kp_re [2000] fi) rfl rfl rfl) v1090_g0) ?_
  refine pg_145_1093 (lv' := [some (xm_r (40, 0, 0)), some (xm_r (0, 0, 0)), some (xm_r (20, 0, 0)), some (xm_r (30, 0, 0)), some (xm_i (nI i)), some (xm_i (1 : Int32)), some (xm_i (0 : Int32)), u7]) rfl ?_
  refine pg_145_1095 rfl ?_
  refine pg_145_1096 (sk20 hs) (Nat.le_of_ble_eq_true rfl) (ct_69  hs) ?_
  refine go_top (y := (1 : Int32)) (by unfold sp_69; simp [xm_up]) ?_
  refine pg_145_1099 rfl ?_
  refine pg_145_1101 (fun _ => ?_) (fun hc => absurd (by decide) hc)
  refine pg_145_1106 rfl ?_
  refine pg_145_1108 (fun _ => ?_) (fun hc => absurd hc (by decide))
  refine pg_145_1123 ?_
  refine pg_145_1274 (y := (nI (i + 5))) (lv' := [some (xm_r (40, 0, 0)), some (xm_r (0, 0, 0)), some (xm_r (20, 0, 0)), some (xm_r (30, 0, 0)), some (xm_i (nI (i + 5))), some (xm_i (1 : Int32)), some (xm_i (0 : Int32)), u7]) rfl (nI_add i 5) rfl ?_
  refine pg_145_1277 ?_
  exact K _ _ _
theorem lw_17_i1 {n : Nat} {E : xm_E} {c : Nat × Nat} {fi : FI} {fl : FL} {r : xm_I → Nat → Option xm_I} {L i : Nat} {xs : Nat → Int32} {R : xm_O} (hs : sh n E c r) (hf : fz n fi) (hB : BZ fi) (hsc : E.1 (40, 0, 0) = (110, L)) (hL : L < 100000) (hi : i + 5 ≤ L) (hxs : ∀ j, j < L → fi (40, 0, 0) j = xs j) (hop : xs i &&& 31 = 17) (hx : 200 ≤ (E.1 (E.2.2 c.1)).1) (v1078_v4_g0 : (bI (sp_8 n (xs (i + 1)))) = 0) (v1078_v4_g1 : ¬ (xs (i + 1)) = (nI (sp_21 n))) (v1090_g0 : ¬ (xs (i + 1)) < 0) (v1090_g1 : ¬ (xs (i + 1)) ≤ (nI n)) (K : ∀ u5 u6 u7 : Option xm_V, xm_G E 8 true 145 43 [some (xm_r (40, 0, 0)), some (xm_r (0, 0, 0)), some (xm_r (20, 0, 0)), some (xm_r (30, 0, 0)), some (xm_i (nI (i + 5))), u5, u6, u7] [] ((c.1 + 1, c.2 + 6), (xm_up fi (20, 0, 0) 0 (1 : Int32)), fl, r) R) : ∀ u5 u6 u7 : Option xm_V, xm_G E 8 true 145 43 [some (xm_r (40, 0, 0)), some (xm_r (0, 0, 0)), some (xm_r (20, 0, 0)), some (xm_r (30, 0, 0)), some (xm_i (nI i)), u5, u6, u7] [] (c, fi, fl, r) R := by
  have hn := sh_n hs
  intro u5 u6 u7
  refine pg_145_43 rfl ?_
  refine pg_145_45 rfl ?_
  refine pg_145_46 (t := 110) (n := L) (Or.inl hsc) ?_
  refine pg_145_47 ?_
  refine pg_145_48 ?_
  refine pg_145_49 (fun hc => absurd hc (lw_go hi hL)) (fun _ => ?_)
  refine pg_145_52 rfl ?_
  refine pg_145_53 rfl ?_
  refine pg_145_55 (n := L) (Or.inr hsc) (i := i) rfl (by omega) hL ?_
  refine go_top (y := xs i) (((kp_re [2000] fi) (40, 0, 0) _ rfl).trans (hxs _ (by omega))) ?_
  refine pg_145_56 ?_
  refine pg_145_58 ?_
  refine go_top (y := (17 : Int32)) hop ?_
  refine pg_145_59 (off := 1011) (t := 1070) (by decide) (by decide) ?_
  refine pg_145_1070 rfl ?_
  refine pg_145_1071 rfl ?_
  refine pg_145_1072 rfl ?_
  refine pg_145_1074 ?_
  refine pg_145_1075 ?_
  refine go_top (y := nI (i + 1)) (nx_add rfl (rfl : (1 : Int32) = nI 1)) ?_
  refine pg_145_1076 (n := L) (Or.inr hsc) (i := (i + 1)) rfl (by omega) hL ?_
  refine go_top (y := xs (i + 1)) (((kp_re [2000] fi) (40, 0, 0) _ rfl).trans (hxs _ (by omega))) ?_
  refine pg_145_1077 rfl ?_
  refine pg_145_1078 (Nat.le_of_ble_eq_true rfl) (ct_140i0 (x := (xs (i + 1))) hs hx v1078_v4_g0 v1078_v4_g1) ?_
  have hs := sh_up hs
  refine pg_145_1081 (lv' := [some (xm_r (40, 0, 0)), some (xm_r (0, 0, 0)), some (xm_r (20, 0, 0)), some (xm_r (30, 0, 0)), some (xm_i (nI i)), some (xm_i (1 : Int32)), u6, u7]) rfl ?_
  refine pg_145_1083 rfl ?_
  refine pg_145_1084 rfl ?_
  refine pg_145_1085 rfl ?_
  refine pg_145_1087 ?_
  refine pg_145_1088 ?_
  refine go_top (y := nI (i + 1)) (nx_add rfl (rfl : (1 : Int32) = nI 1)) ?_
  refine pg_145_1089 (n := L) (Or.inr hsc) (i := (i + 1)) rfl (by omega) hL ?_
  refine go_top (y := xs (i + 1)) (((kp_re [2000] fi) (40, 0, 0) _ rfl).trans (hxs _ (by omega))) ?_
  refine pg_145_1090 (sk20 hs) (Nat.le_of_ble_eq_true rfl) (ct_115i1 (x := (xs (i + 1))) hs (fz_kp hf (kp_re [2000] fi) rfl rfl rfl) v1090_g0 v1090_g1) ?_
  refine pg_145_1093 (lv' := [some (xm_r (40, 0, 0)), some (xm_r (0, 0, 0)), some (xm_r (20, 0, 0)), some (xm_r (30, 0, 0)), some (xm_i (nI i)), some (xm_i (1 : Int32)), some (xm_i (0 : Int32)), u7]) rfl ?_
  refine pg_145_1095 rfl ?_
  refine pg_145_1096 (sk20 hs) (Nat.le_of_ble_eq_true rfl) (ct_69  hs) ?_
  refine go_top (y := (1 : Int32)) (by unfold sp_69; simp [xm_up]) ?_
  refine pg_145_1099 rfl ?_
  refine pg_145_1101 (fun _ => ?_) (fun hc => absurd (by decide) hc)
  refine pg_145_1106 rfl ?_
  refine pg_145_1108 (fun _ => ?_) (fun hc => absurd hc (by decide))
  refine pg_145_1123 ?_
  refine pg_145_1274 (y := (nI (i + 5))) (lv' := [some (xm_r (40, 0, 0)), some (xm_r (0, 0, 0)), some (xm_r (20, 0, 0)), some (xm_r (30, 0, 0)), some (xm_i (nI (i + 5))), some (xm_i (1 : Int32)), some (xm_i (0 : Int32)), u7]) rfl (nI_add i 5) rfl ?_
  refine pg_145_1277 ?_
  exact K _ _ _
theorem lw_18_ok {n : Nat} {E : xm_E} {c : Nat × Nat} {fi : FI} {fl : FL} {r : xm_I → Nat → Option xm_I} {L i : Nat} {xs : Nat → Int32} {R : xm_O} (hs : sh n E c r) (hf : fz n fi) (hB : BZ fi) (hsc : E.1 (40, 0, 0) = (110, L)) (hL : L < 100000) (hi : i + 5 ≤ L) (hxs : ∀ j, j < L → fi (40, 0, 0) j = xs j) (hop : xs i &&& 31 = 18) (g0 : (lg_cmp ((xm_up fl (30, 0, 0) 0 (sp_120 (xs (i + 1)) (xs (i + 2)) (xs (i + 3)) (xs (i + 4)))) (30, 0, 0) 0) (sp_73 (xs (i + 1)) (xs (i + 2)) (xs (i + 3)) (xs (i + 4)))) = 0) (v1152_v9_g0 : ¬ (bI (sp_125 (xs (i + 1)) (xs (i + 2)) (xs (i + 3)))) = 0) (v1182_g0 : ¬ (xs (i + 1)) < 0) (v1182_g1 : ¬ (15 : Int32) < (xs (i + 1))) (v1182_g2 : ¬ (xs (i + 2)) < 0) (v1182_g3 : ¬ (15 : Int32) < (xs (i + 2))) (v1182_g4 : ¬ (xs (i + 3)) < 0) (v1182_g5 : (xs (i + 3)) ≤ (255 : Int32)) (K : ∀ u5 u6 u7 : Option xm_V, xm_G E 8 true 145 43 [some (xm_r (40, 0, 0)), some (xm_r (0, 0, 0)), some (xm_r (20, 0, 0)), some (xm_r (30, 0, 0)), some (xm_i (nI (i + 5))), u5, u6, u7] [] (c, (xm_up fi (20, 0, 0) 0 (0 : Int32)), (xm_up fl (30, 0, 0) 0 (sp_120 (xs (i + 1)) (xs (i + 2)) (xs (i + 3)) (xs (i + 4)))), r) R) : ∀ u5 u6 u7 : Option xm_V, xm_G E 8 true 145 43 [some (xm_r (40, 0, 0)), some (xm_r (0, 0, 0)), some (xm_r (20, 0, 0)), some (xm_r (30, 0, 0)), some (xm_i (nI i)), u5, u6, u7] [] (c, fi, fl, r) R := by
  have hn := sh_n hs
  intro u5 u6 u7
  refine pg_145_43 rfl ?_
  refine pg_145_45 rfl ?_
  refine pg_145_46 (t := 110) (n := L) (Or.inl hsc) ?_
  refine pg_145_47 ?_
  refine pg_145_48 ?_
  refine pg_145_49 (fun hc => absurd hc (lw_go hi hL)) (fun _ => ?_)
  refine pg_145_52 rfl ?_
  refine pg_145_53 rfl ?_
  refine pg_145_55 (n := L) (Or.inr hsc) (i := i) rfl (by omega) hL ?_
  refine go_top (y := xs i) (((kp_re [2000] fi) (40, 0, 0) _ rfl).trans (hxs _ (by omega))) ?_
  refine pg_145_56 ?_
  refine pg_145_58 ?_
  refine go_top (y := (18 : Int32)) hop ?_
  refine pg_145_59 (off := 1067) (t := 1126) (by decide) (by decide) ?_
  refine pg_145_1126 rfl ?_
  refine pg_145_1127 rfl ?_
  refine pg_145_1128 rfl ?_
  refine pg_145_1130 ?_
  refine pg_145_1131 ?_
  refine go_top (y := nI (i + 1)) (nx_add rfl (rfl : (1 : Int32) = nI 1)) ?_
  refine pg_145_1132 (n := L) (Or.inr hsc) (i := (i + 1)) rfl (by omega) hL ?_
  refine go_top (y := xs (i + 1)) (((kp_re [2000] fi) (40, 0, 0) _ rfl).trans (hxs _ (by omega))) ?_
  refine pg_145_1133 rfl ?_
  refine pg_145_1134 rfl ?_
  refine pg_145_1136 ?_
  refine pg_145_1137 ?_
  refine go_top (y := nI (i + 2)) (nx_add rfl (rfl : (2 : Int32) = nI 2)) ?_
  refine pg_145_1138 (n := L) (Or.inr hsc) (i := (i + 2)) rfl (by omega) hL ?_
  refine go_top (y := xs (i + 2)) (((kp_re [2000] fi) (40, 0, 0) _ rfl).trans (hxs _ (by omega))) ?_
  refine pg_145_1139 rfl ?_
  refine pg_145_1140 rfl ?_
  refine pg_145_1142 ?_
  refine pg_145_1143 ?_
  refine go_top (y := nI (i + 3)) (nx_add rfl (rfl : (3 : Int32) = nI 3)) ?_
  refine pg_145_1144 (n := L) (Or.inr hsc) (i := (i + 3)) rfl (by omega) hL ?_
  refine go_top (y := xs (i + 3)) (((kp_re [2000] fi) (40, 0, 0) _ rfl).trans (hxs _ (by omega))) ?_
  refine pg_145_1145 rfl ?_
  refine pg_145_1146 rfl ?_
  refine pg_145_1148 ?_
  refine pg_145_1149 ?_
  refine go_top (y := nI (i + 4)) (nx_add rfl (rfl : (4 : Int32) = nI 4)) ?_
  refine pg_145_1150 (n := L) (Or.inr hsc) (i := (i + 4)) rfl (by omega) hL ?_
  refine go_top (y := xs (i + 4)) (((kp_re [2000] fi) (40, 0, 0) _ rfl).trans (hxs _ (by omega))) ?_
  refine pg_145_1151 rfl ?_
  refine pg_145_1152 (Nat.le_of_ble_eq_true rfl) (ct_141l1 (x := (xs (i + 1))) (y := (xs (i + 2))) (z := (xs (i + 3))) (w := (xs (i + 4))) hs v1152_v9_g0) ?_
  refine pg_145_1155 (lv' := [some (xm_r (40, 0, 0)), some (xm_r (0, 0, 0)), some (xm_r (20, 0, 0)), some (xm_r (30, 0, 0)), some (xm_i (nI i)), some (xm_i (0 : Int32)), u6, u7]) rfl ?_
  refine pg_145_1157 rfl ?_
  refine pg_145_1158 rfl ?_
  refine pg_145_1159 rfl ?_
  refine pg_145_1161 ?_
  refine pg_145_1162 ?_
  refine go_top (y := nI (i + 1)) (nx_add rfl (rfl : (1 : Int32) = nI 1)) ?_
  refine pg_145_1163 (n := L) (Or.inr hsc) (i := (i + 1)) rfl (by omega) hL ?_
  refine go_top (y := xs (i + 1)) (((kp_re [2000] fi) (40, 0, 0) _ rfl).trans (hxs _ (by omega))) ?_
  refine pg_145_1164 rfl ?_
  refine pg_145_1165 rfl ?_
  refine pg_145_1167 ?_
  refine pg_145_1168 ?_
  refine go_top (y := nI (i + 2)) (nx_add rfl (rfl : (2 : Int32) = nI 2)) ?_
  refine pg_145_1169 (n := L) (Or.inr hsc) (i := (i + 2)) rfl (by omega) hL ?_
  refine go_top (y := xs (i + 2)) (((kp_re [2000] fi) (40, 0, 0) _ rfl).trans (hxs _ (by omega))) ?_
  refine pg_145_1170 rfl ?_
  refine pg_145_1171 rfl ?_
  refine pg_145_1173 ?_
  refine pg_145_1174 ?_
  refine go_top (y := nI (i + 3)) (nx_add rfl (rfl : (3 : Int32) = nI 3)) ?_
  refine pg_145_1175 (n := L) (Or.inr hsc) (i := (i + 3)) rfl (by omega) hL ?_
  refine go_top (y := xs (i + 3)) (((kp_re [2000] fi) (40, 0, 0) _ rfl).trans (hxs _ (by omega))) ?_
  refine pg_145_1176 rfl ?_
  refine pg_145_1177 rfl ?_
  refine pg_145_1179 ?_
  refine pg_145_1180 ?_
  refine go_top (y := nI (i + 4)) (nx_add rfl (rfl : (4 : Int32) = nI 4)) ?_
  refine pg_145_1181 (n := L) (Or.inr hsc) (i := (i + 4)) rfl (by omega) hL ?_
  refine go_top (y := xs (i + 4)) (((kp_re [2000] fi) (40, 0, 0) _ rfl).trans (hxs _ (by omega))) ?_
  refine pg_145_1182 (sk20 hs) (Nat.le_of_ble_eq_true rfl) (ct_116l5 (x := (xs (i + 1))) (y := (xs (i + 2))) (z := (xs (i + 3))) (w := (xs (i + 4))) hs v1182_g0 v1182_g1 v1182_g2 v1182_g3 v1182_g4 v1182_g5) ?_
  refine pg_145_1185 (lv' := [some (xm_r (40, 0, 0)), some (xm_r (0, 0, 0)), some (xm_r (20, 0, 0)), some (xm_r (30, 0, 0)), some (xm_i (nI i)), some (xm_i (0 : Int32)), some (xm_l (sp_73 (xs (i + 1)) (xs (i + 2)) (xs (i + 3)) (xs (i + 4)))), none]) rfl ?_
  refine pg_145_1187 rfl ?_
  refine pg_145_1188 (sk20 hs) (Nat.le_of_ble_eq_true rfl) (ct_69  hs) ?_
  refine go_top (y := (0 : Int32)) (by unfold sp_69; simp [xm_up]) ?_
  refine pg_145_1191 rfl ?_
  refine pg_145_1193 (fun _ => ?_) (fun hc => absurd (by decide) hc)
  refine pg_145_1198 rfl ?_
  refine pg_145_1200 (fun hc => absurd (by decide) hc) (fun _ => ?_)
  refine pg_145_1203 rfl ?_
  refine pg_145_1204 ?_
  refine pg_145_1205 (sk30 hs) (i := 0) (rfl : (0 : Int32) = nI 0) (by omega) (by omega) ?_
  refine pg_145_1206 rfl ?_
  refine pg_145_1208 ?_
  refine pg_145_1209 (fun _ => ?_) (fun hc => absurd g0 hc)
  refine pg_145_1214 ?_
  refine pg_145_1274 (y := (nI (i + 5))) (lv' := [some (xm_r (40, 0, 0)), some (xm_r (0, 0, 0)), some (xm_r (20, 0, 0)), some (xm_r (30, 0, 0)), some (xm_i (nI (i + 5))), some (xm_i (0 : Int32)), some (xm_l (sp_73 (xs (i + 1)) (xs (i + 2)) (xs (i + 3)) (xs (i + 4)))), none]) rfl (nI_add i 5) rfl ?_
  refine pg_145_1277 ?_
  exact K _ _ _
theorem lw_18_b0 {n : Nat} {E : xm_E} {c : Nat × Nat} {fi : FI} {fl : FL} {r : xm_I → Nat → Option xm_I} {L i : Nat} {xs : Nat → Int32} {R : xm_O} (hs : sh n E c r) (hf : fz n fi) (hB : BZ fi) (hsc : E.1 (40, 0, 0) = (110, L)) (hL : L < 100000) (hi : i + 5 ≤ L) (hxs : ∀ j, j < L → fi (40, 0, 0) j = xs j) (hop : xs i &&& 31 = 18) (hx : 200 ≤ (E.1 (E.2.2 c.1)).1) (v1152_v9_g0 : (bI (sp_125 (xs (i + 1)) (xs (i + 2)) (xs (i + 3)))) = 0) (v1182_g0 : (xs (i + 1)) < 0) (K : ∀ u5 u6 u7 : Option xm_V, xm_G E 8 true 145 43 [some (xm_r (40, 0, 0)), some (xm_r (0, 0, 0)), some (xm_r (20, 0, 0)), some (xm_r (30, 0, 0)), some (xm_i (nI (i + 5))), u5, u6, u7] [] ((c.1 + 1, c.2 + 6), (xm_up fi (20, 0, 0) 0 (1 : Int32)), fl, r) R) : ∀ u5 u6 u7 : Option xm_V, xm_G E 8 true 145 43 [some (xm_r (40, 0, 0)), some (xm_r (0, 0, 0)), some (xm_r (20, 0, 0)), some (xm_r (30, 0, 0)), some (xm_i (nI i)), u5, u6, u7] [] (c, fi, fl, r) R := by
  have hn := sh_n hs
  intro u5 u6 u7
  refine pg_145_43 rfl ?_
  refine pg_145_45 rfl ?_
  refine pg_145_46 (t := 110) (n := L) (Or.inl hsc) ?_
  refine pg_145_47 ?_
  refine pg_145_48 ?_
  refine pg_145_49 (fun hc => absurd hc (lw_go hi hL)) (fun _ => ?_)
  refine pg_145_52 rfl ?_
  refine pg_145_53 rfl ?_
  refine pg_145_55 (n := L) (Or.inr hsc) (i := i) rfl (by omega) hL ?_
  refine go_top (y := xs i) (((kp_re [2000] fi) (40, 0, 0) _ rfl).trans (hxs _ (by omega))) ?_
  refine pg_145_56 ?_
  refine pg_145_58 ?_
  refine go_top (y := (18 : Int32)) hop ?_
  refine pg_145_59 (off := 1067) (t := 1126) (by decide) (by decide) ?_
  refine pg_145_1126 rfl ?_
  refine pg_145_1127 rfl ?_
  refine pg_145_1128 rfl ?_
  refine pg_145_1130 ?_
  refine pg_145_1131 ?_
  refine go_top (y := nI (i + 1)) (nx_add rfl (rfl : (1 : Int32) = nI 1)) ?_
  refine pg_145_1132 (n := L) (Or.inr hsc) (i := (i + 1)) rfl (by omega) hL ?_
  refine go_top (y := xs (i + 1)) (((kp_re [2000] fi) (40, 0, 0) _ rfl).trans (hxs _ (by omega))) ?_
  refine pg_145_1133 rfl ?_
  refine pg_145_1134 rfl ?_
  refine pg_145_1136 ?_
  refine pg_145_1137 ?_
  refine go_top (y := nI (i + 2)) (nx_add rfl (rfl : (2 : Int32) = nI 2)) ?_
  refine pg_145_1138 (n := L) (Or.inr hsc) (i := (i + 2)) rfl (by omega) hL ?_
  refine go_top (y := xs (i + 2)) (((kp_re [2000] fi) (40, 0, 0) _ rfl).trans (hxs _ (by omega))) ?_
  refine pg_145_1139 rfl ?_
  refine pg_145_1140 rfl ?_
  refine pg_145_1142 ?_
  refine pg_145_1143 ?_
  refine go_top (y := nI (i + 3)) (nx_add rfl (rfl : (3 : Int32) = nI 3)) ?_
  refine pg_145_1144 (n := L) (Or.inr hsc) (i := (i + 3)) rfl (by omega) hL ?_
  refine go_top (y := xs (i + 3)) (((kp_re [2000] fi) (40, 0, 0) _ rfl).trans (hxs _ (by omega))) ?_
  refine pg_145_1145 rfl ?_
  refine pg_145_1146 rfl ?_
  refine pg_145_1148 ?_
  refine pg_145_1149 ?_
  refine go_top (y := nI (i + 4)) (nx_add rfl (rfl : (4 : Int32) = nI 4)) ?_
  refine pg_145_1150 (n := L) (Or.inr hsc) (i := (i + 4)) rfl (by omega) hL ?_
  refine go_top (y := xs (i + 4)) (((kp_re [2000] fi) (40, 0, 0) _ rfl).trans (hxs _ (by omega))) ?_
  refine pg_145_1151 rfl ?_
  refine pg_145_1152 (Nat.le_of_ble_eq_true rfl) (ct_141l0 (x := (xs (i + 1))) (y := (xs (i + 2))) (z := (xs (i + 3))) (w := (xs (i + 4))) hs hx v1152_v9_g0) ?_
  have hs := sh_up hs
  refine pg_145_1155 (lv' := [some (xm_r (40, 0, 0)), some (xm_r (0, 0, 0)), some (xm_r (20, 0, 0)), some (xm_r (30, 0, 0)), some (xm_i (nI i)), some (xm_i (1 : Int32)), u6, u7]) rfl ?_
  refine pg_145_1157 rfl ?_
  refine pg_145_1158 rfl ?_
  refine pg_145_1159 rfl ?_
  refine pg_145_1161 ?_
  refine pg_145_1162 ?_
  refine go_top (y := nI (i + 1)) (nx_add rfl (rfl : (1 : Int32) = nI 1)) ?_
  refine pg_145_1163 (n := L) (Or.inr hsc) (i := (i + 1)) rfl (by omega) hL ?_
  refine go_top (y := xs (i + 1)) (((kp_re [2000] fi) (40, 0, 0) _ rfl).trans (hxs _ (by omega))) ?_
  refine pg_145_1164 rfl ?_
  refine pg_145_1165 rfl ?_
  refine pg_145_1167 ?_
  refine pg_145_1168 ?_
  refine go_top (y := nI (i + 2)) (nx_add rfl (rfl : (2 : Int32) = nI 2)) ?_
  refine pg_145_1169 (n := L) (Or.inr hsc) (i := (i + 2)) rfl (by omega) hL ?_
  refine go_top (y := xs (i + 2)) (((kp_re [2000] fi) (40, 0, 0) _ rfl).trans (hxs _ (by omega))) ?_
  refine pg_145_1170 rfl ?_
  refine pg_145_1171 rfl ?_
  refine pg_145_1173 ?_
  refine pg_145_1174 ?_
  refine go_top (y := nI (i + 3)) (nx_add rfl (rfl : (3 : Int32) = nI 3)) ?_
  refine pg_145_1175 (n := L) (Or.inr hsc) (i := (i + 3)) rfl (by omega) hL ?_
  refine go_top (y := xs (i + 3)) (((kp_re [2000] fi) (40, 0, 0) _ rfl).trans (hxs _ (by omega))) ?_
  refine pg_145_1176 rfl ?_
  refine pg_145_1177 rfl ?_
  refine pg_145_1179 ?_
  refine pg_145_1180 ?_
  refine go_top (y := nI (i + 4)) (nx_add rfl (rfl : (4 : Int32) = nI 4)) ?_
  refine pg_145_1181 (n := L) (Or.inr hsc) (i := (i + 4)) rfl (by omega) hL ?_
  refine go_top (y := xs (i + 4)) (((kp_re [2000] fi) (40, 0, 0) _ rfl).trans (hxs _ (by omega))) ?_
  refine pg_145_1182 (sk20 hs) (Nat.le_of_ble_eq_true rfl) (ct_116l0 (x := (xs (i + 1))) (y := (xs (i + 2))) (z := (xs (i + 3))) (w := (xs (i + 4))) hs v1182_g0) ?_
  refine pg_145_1185 (lv' := [some (xm_r (40, 0, 0)), some (xm_r (0, 0, 0)), some (xm_r (20, 0, 0)), some (xm_r (30, 0, 0)), some (xm_i (nI i)), some (xm_i (1 : Int32)), some (xm_l (0 : Int64)), none]) rfl ?_
  refine pg_145_1187 rfl ?_
  refine pg_145_1188 (sk20 hs) (Nat.le_of_ble_eq_true rfl) (ct_69  hs) ?_
  refine go_top (y := (1 : Int32)) (by unfold sp_69; simp [xm_up]) ?_
  refine pg_145_1191 rfl ?_
  refine pg_145_1193 (fun _ => ?_) (fun hc => absurd (by decide) hc)
  refine pg_145_1198 rfl ?_
  refine pg_145_1200 (fun _ => ?_) (fun hc => absurd hc (by decide))
  refine pg_145_1214 ?_
  refine pg_145_1274 (y := (nI (i + 5))) (lv' := [some (xm_r (40, 0, 0)), some (xm_r (0, 0, 0)), some (xm_r (20, 0, 0)), some (xm_r (30, 0, 0)), some (xm_i (nI (i + 5))), some (xm_i (1 : Int32)), some (xm_l (0 : Int64)), none]) rfl (nI_add i 5) rfl ?_
  refine pg_145_1277 ?_
  exact K _ _ _
theorem lw_18_b1 {n : Nat} {E : xm_E} {c : Nat × Nat} {fi : FI} {fl : FL} {r : xm_I → Nat → Option xm_I} {L i : Nat} {xs : Nat → Int32} {R : xm_O} (hs : sh n E c r) (hf : fz n fi) (hB : BZ fi) (hsc : E.1 (40, 0, 0) = (110, L)) (hL : L < 100000) (hi : i + 5 ≤ L) (hxs : ∀ j, j < L → fi (40, 0, 0) j = xs j) (hop : xs i &&& 31 = 18) (hx : 200 ≤ (E.1 (E.2.2 c.1)).1) (v1152_v9_g0 : (bI (sp_125 (xs (i + 1)) (xs (i + 2)) (xs (i + 3)))) = 0) (v1182_g0 : ¬ (xs (i + 1)) < 0) (v1182_g1 : (15 : Int32) < (xs (i + 1))) (K : ∀ u5 u6 u7 : Option xm_V, xm_G E 8 true 145 43 [some (xm_r (40, 0, 0)), some (xm_r (0, 0, 0)), some (xm_r (20, 0, 0)), some (xm_r (30, 0, 0)), some (xm_i (nI (i + 5))), u5, u6, u7] [] ((c.1 + 1, c.2 + 6), (xm_up fi (20, 0, 0) 0 (1 : Int32)), fl, r) R) : ∀ u5 u6 u7 : Option xm_V, xm_G E 8 true 145 43 [some (xm_r (40, 0, 0)), some (xm_r (0, 0, 0)), some (xm_r (20, 0, 0)), some (xm_r (30, 0, 0)), some (xm_i (nI i)), u5, u6, u7] [] (c, fi, fl, r) R := by
  have hn := sh_n hs
  intro u5 u6 u7
  refine pg_145_43 rfl ?_
  refine pg_145_45 rfl ?_
  refine pg_145_46 (t := 110) (n := L) (Or.inl hsc) ?_
  refine pg_145_47 ?_
  refine pg_145_48 ?_
  refine pg_145_49 (fun hc => absurd hc (lw_go hi hL)) (fun _ => ?_)
  refine pg_145_52 rfl ?_
  refine pg_145_53 rfl ?_
  refine pg_145_55 (n := L) (Or.inr hsc) (i := i) rfl (by omega) hL ?_
  refine go_top (y := xs i) (((kp_re [2000] fi) (40, 0, 0) _ rfl).trans (hxs _ (by omega))) ?_
  refine pg_145_56 ?_
  refine pg_145_58 ?_
  refine go_top (y := (18 : Int32)) hop ?_
  refine pg_145_59 (off := 1067) (t := 1126) (by decide) (by decide) ?_
  refine pg_145_1126 rfl ?_
  refine pg_145_1127 rfl ?_
  refine pg_145_1128 rfl ?_
  refine pg_145_1130 ?_
  refine pg_145_1131 ?_
  refine go_top (y := nI (i + 1)) (nx_add rfl (rfl : (1 : Int32) = nI 1)) ?_
  refine pg_145_1132 (n := L) (Or.inr hsc) (i := (i + 1)) rfl (by omega) hL ?_
  refine go_top (y := xs (i + 1)) (((kp_re [2000] fi) (40, 0, 0) _ rfl).trans (hxs _ (by omega))) ?_
  refine pg_145_1133 rfl ?_
  refine pg_145_1134 rfl ?_
  refine pg_145_1136 ?_
  refine pg_145_1137 ?_
  refine go_top (y := nI (i + 2)) (nx_add rfl (rfl : (2 : Int32) = nI 2)) ?_
  refine pg_145_1138 (n := L) (Or.inr hsc) (i := (i + 2)) rfl (by omega) hL ?_
  refine go_top (y := xs (i + 2)) (((kp_re [2000] fi) (40, 0, 0) _ rfl).trans (hxs _ (by omega))) ?_
  refine pg_145_1139 rfl ?_
  refine pg_145_1140 rfl ?_
  refine pg_145_1142 ?_
  refine pg_145_1143 ?_
  refine go_top (y := nI (i + 3)) (nx_add rfl (rfl : (3 : Int32) = nI 3)) ?_
  refine pg_145_1144 (n := L) (Or.inr hsc) (i := (i + 3)) rfl (by omega) hL ?_
  refine go_top (y := xs (i + 3)) (((kp_re [2000] fi) (40, 0, 0) _ rfl).trans (hxs _ (by omega))) ?_
  refine pg_145_1145 rfl ?_
  refine pg_145_1146 rfl ?_
  refine pg_145_1148 ?_
  refine pg_145_1149 ?_
  refine go_top (y := nI (i + 4)) (nx_add rfl (rfl : (4 : Int32) = nI 4)) ?_
  refine pg_145_1150 (n := L) (Or.inr hsc) (i := (i + 4)) rfl (by omega) hL ?_
  refine go_top (y := xs (i + 4)) (((kp_re [2000] fi) (40, 0, 0) _ rfl).trans (hxs _ (by omega))) ?_
  refine pg_145_1151 rfl ?_
  refine pg_145_1152 (Nat.le_of_ble_eq_true rfl) (ct_141l0 (x := (xs (i + 1))) (y := (xs (i + 2))) (z := (xs (i + 3))) (w := (xs (i + 4))) hs hx v1152_v9_g0) ?_
  have hs := sh_up hs
  refine pg_145_1155 (lv' := [some (xm_r (40, 0, 0)), some (xm_r (0, 0, 0)), some (xm_r (20, 0, 0)), some (xm_r (30, 0, 0)), some (xm_i (nI i)), some (xm_i (1 : Int32)), u6, u7]) rfl ?_
  refine pg_145_1157 rfl ?_
  refine pg_145_1158 rfl ?_
  refine pg_145_1159 rfl ?_
  refine pg_145_1161 ?_
  refine pg_145_1162 ?_
  refine go_top (y := nI (i + 1)) (nx_add rfl (rfl : (1 : Int32) = nI 1)) ?_
  refine pg_145_1163 (n := L) (Or.inr hsc) (i := (i + 1)) rfl (by omega) hL ?_
  refine go_top (y := xs (i + 1)) (((kp_re [2000] fi) (40, 0, 0) _ rfl).trans (hxs _ (by omega))) ?_
  refine pg_145_1164 rfl ?_
  refine pg_145_1165 rfl ?_
  refine pg_145_1167 ?_
  refine pg_145_1168 ?_
  refine go_top (y := nI (i + 2)) (nx_add rfl (rfl : (2 : Int32) = nI 2)) ?_
  refine pg_145_1169 (n := L) (Or.inr hsc) (i := (i + 2)) rfl (by omega) hL ?_
  refine go_top (y := xs (i + 2)) (((kp_re [2000] fi) (40, 0, 0) _ rfl).trans (hxs _ (by omega))) ?_
  refine pg_145_1170 rfl ?_
  refine pg_145_1171 rfl ?_
  refine pg_145_1173 ?_
  refine pg_145_1174 ?_
  refine go_top (y := nI (i + 3)) (nx_add rfl (rfl : (3 : Int32) = nI 3)) ?_
  refine pg_145_1175 (n := L) (Or.inr hsc) (i := (i + 3)) rfl (by omega) hL ?_
  refine go_top (y := xs (i + 3)) (((kp_re [2000] fi) (40, 0, 0) _ rfl).trans (hxs _ (by omega))) ?_
  refine pg_145_1176 rfl ?_
  refine pg_145_1177 rfl ?_
  refine pg_145_1179 ?_
  refine pg_145_1180 ?_
  refine go_top (y := nI (i + 4)) (nx_add rfl (rfl : (4 : Int32) = nI 4)) ?_
  refine pg_145_1181 (n := L) (Or.inr hsc) (i := (i + 4)) rfl (by omega) hL ?_
  refine go_top (y := xs (i + 4)) (((kp_re [2000] fi) (40, 0, 0) _ rfl).trans (hxs _ (by omega))) ?_
  refine pg_145_1182 (sk20 hs) (Nat.le_of_ble_eq_true rfl) (ct_116l1 (x := (xs (i + 1))) (y := (xs (i + 2))) (z := (xs (i + 3))) (w := (xs (i + 4))) hs v1182_g0 v1182_g1) ?_
  refine pg_145_1185 (lv' := [some (xm_r (40, 0, 0)), some (xm_r (0, 0, 0)), some (xm_r (20, 0, 0)), some (xm_r (30, 0, 0)), some (xm_i (nI i)), some (xm_i (1 : Int32)), some (xm_l (0 : Int64)), none]) rfl ?_
  refine pg_145_1187 rfl ?_
  refine pg_145_1188 (sk20 hs) (Nat.le_of_ble_eq_true rfl) (ct_69  hs) ?_
  refine go_top (y := (1 : Int32)) (by unfold sp_69; simp [xm_up]) ?_
  refine pg_145_1191 rfl ?_
  refine pg_145_1193 (fun _ => ?_) (fun hc => absurd (by decide) hc)
  refine pg_145_1198 rfl ?_
  refine pg_145_1200 (fun _ => ?_) (fun hc => absurd hc (by decide))
  refine pg_145_1214 ?_
  refine pg_145_1274 (y := (nI (i + 5))) (lv' := [some (xm_r (40, 0, 0)), some (xm_r (0, 0, 0)), some (xm_r (20, 0, 0)), some (xm_r (30, 0, 0)), some (xm_i (nI (i + 5))), some (xm_i (1 : Int32)), some (xm_l (0 : Int64)), none]) rfl (nI_add i 5) rfl ?_
  refine pg_145_1277 ?_
  exact K _ _ _
theorem lw_18_b2 {n : Nat} {E : xm_E} {c : Nat × Nat} {fi : FI} {fl : FL} {r : xm_I → Nat → Option xm_I} {L i : Nat} {xs : Nat → Int32} {R : xm_O} (hs : sh n E c r) (hf : fz n fi) (hB : BZ fi) (hsc : E.1 (40, 0, 0) = (110, L)) (hL : L < 100000) (hi : i + 5 ≤ L) (hxs : ∀ j, j < L → fi (40, 0, 0) j = xs j) (hop : xs i &&& 31 = 18) (hx : 200 ≤ (E.1 (E.2.2 c.1)).1) (v1152_v9_g0 : (bI (sp_125 (xs (i + 1)) (xs (i + 2)) (xs (i + 3)))) = 0) (v1182_g0 : ¬ (xs (i + 1)) < 0) (v1182_g1 : ¬ (15 : Int32) < (xs (i + 1))) (v1182_g2 : (xs (i + 2)) < 0) (K : ∀ u5 u6 u7 : Option xm_V, xm_G E 8 true 145 43 [some (xm_r (40, 0, 0)), some (xm_r (0, 0, 0)), some (xm_r (20, 0, 0)), some (xm_r (30, 0, 0)), some (xm_i (nI (i + 5))), u5, u6, u7] [] ((c.1 + 1, c.2 + 6), (xm_up fi (20, 0, 0) 0 (1 : Int32)), fl, r) R) : ∀ u5 u6 u7 : Option xm_V, xm_G E 8 true 145 43 [some (xm_r (40, 0, 0)), some (xm_r (0, 0, 0)), some (xm_r (20, 0, 0)), some (xm_r (30, 0, 0)), some (xm_i (nI i)), u5, u6, u7] [] (c, fi, fl, r) R := by
  have hn := sh_n hs
  intro u5 u6 u7
  refine pg_145_43 rfl ?_
  refine pg_145_45 rfl ?_
  refine pg_145_46 (t := 110) (n := L) (Or.inl hsc) ?_
  refine pg_145_47 ?_
  refine pg_145_48 ?_
  refine pg_145_49 (fun hc => absurd hc (lw_go hi hL)) (fun _ => ?_)
  refine pg_145_52 rfl ?_
  refine pg_145_53 rfl ?_
  refine pg_145_55 (n := L) (Or.inr hsc) (i := i) rfl (by omega) hL ?_
  refine go_top (y := xs i) (((kp_re [2000] fi) (40, 0, 0) _ rfl).trans (hxs _ (by omega))) ?_
  refine pg_145_56 ?_
  refine pg_145_58 ?_
  refine go_top (y := (18 : Int32)) hop ?_
  refine pg_145_59 (off := 1067) (t := 1126) (by decide) (by decide) ?_
  refine pg_145_1126 rfl ?_
  refine pg_145_1127 rfl ?_
  refine pg_145_1128 rfl ?_
  refine pg_145_1130 ?_
  refine pg_145_1131 ?_
  refine go_top (y := nI (i + 1)) (nx_add rfl (rfl : (1 : Int32) = nI 1)) ?_
  refine pg_145_1132 (n := L) (Or.inr hsc) (i := (i + 1)) rfl (by omega) hL ?_
  refine go_top (y := xs (i + 1)) (((kp_re [2000] fi) (40, 0, 0) _ rfl).trans (hxs _ (by omega))) ?_
  refine pg_145_1133 rfl ?_
  refine pg_145_1134 rfl ?_
  refine pg_145_1136 ?_
  refine pg_145_1137 ?_
  refine go_top (y := nI (i + 2)) (nx_add rfl (rfl : (2 : Int32) = nI 2)) ?_
  refine pg_145_1138 (n := L) (Or.inr hsc) (i := (i + 2)) rfl (by omega) hL ?_
  refine go_top (y := xs (i + 2)) (((kp_re [2000] fi) (40, 0, 0) _ rfl).trans (hxs _ (by omega))) ?_
  refine pg_145_1139 rfl ?_
  refine pg_145_1140 rfl ?_
  refine pg_145_1142 ?_
  refine pg_145_1143 ?_
  refine go_top (y := nI (i + 3)) (nx_add rfl (rfl : (3 : Int32) = nI 3)) ?_
  refine pg_145_1144 (n := L) (Or.inr hsc) (i := (i + 3)) rfl (by omega) hL ?_
  refine go_top (y := xs (i + 3)) (((kp_re [2000] fi) (40, 0, 0) _ rfl).trans (hxs _ (by omega))) ?_
  refine pg_145_1145 rfl ?_
  refine pg_145_1146 rfl ?_
  refine pg_145_1148 ?_
  refine pg_145_1149 ?_
  refine go_top (y := nI (i + 4)) (nx_add rfl (rfl : (4 : Int32) = nI 4)) ?_
  refine pg_145_1150 (n := L) (Or.inr hsc) (i := (i + 4)) rfl (by omega) hL ?_
  refine go_top (y := xs (i + 4)) (((kp_re [2000] fi) (40, 0, 0) _ rfl).trans (hxs _ (by omega))) ?_
  refine pg_145_1151 rfl ?_
  refine pg_145_1152 (Nat.le_of_ble_eq_true rfl) (ct_141l0 (x := (xs (i + 1))) (y := (xs (i + 2))) (z := (xs (i + 3))) (w := (xs (i + 4))) hs hx v1152_v9_g0) ?_
  have hs := sh_up hs
  refine pg_145_1155 (lv' := [some (xm_r (40, 0, 0)), some (xm_r (0, 0, 0)), some (xm_r (20, 0, 0)), some (xm_r (30, 0, 0)), some (xm_i (nI i)), some (xm_i (1 : Int32)), u6, u7]) rfl ?_
  refine pg_145_1157 rfl ?_
  refine pg_145_1158 rfl ?_
  refine pg_145_1159 rfl ?_
  refine pg_145_1161 ?_
  refine pg_145_1162 ?_
  refine go_top (y := nI (i + 1)) (nx_add rfl (rfl : (1 : Int32) = nI 1)) ?_
  refine pg_145_1163 (n := L) (Or.inr hsc) (i := (i + 1)) rfl (by omega) hL ?_
  refine go_top (y := xs (i + 1)) (((kp_re [2000] fi) (40, 0, 0) _ rfl).trans (hxs _ (by omega))) ?_
  refine pg_145_1164 rfl ?_
  refine pg_145_1165 rfl ?_
  refine pg_145_1167 ?_
  refine pg_145_1168 ?_
  refine go_top (y := nI (i + 2)) (nx_add rfl (rfl : (2 : Int32) = nI 2)) ?_
  refine pg_145_1169 (n := L) (Or.inr hsc) (i := (i + 2)) rfl (by omega) hL ?_
  refine go_top (y := xs (i + 2)) (((kp_re [2000] fi) (40, 0, 0) _ rfl).trans (hxs _ (by omega))) ?_
  refine pg_145_1170 rfl ?_
  refine pg_145_1171 rfl ?_
  refine pg_145_1173 ?_
  refine pg_145_1174 ?_
  refine go_top (y := nI (i + 3)) (nx_add rfl (rfl : (3 : Int32) = nI 3)) ?_
  refine pg_145_1175 (n := L) (Or.inr hsc) (i := (i + 3)) rfl (by omega) hL ?_
  refine go_top (y := xs (i + 3)) (((kp_re [2000] fi) (40, 0, 0) _ rfl).trans (hxs _ (by omega))) ?_
  refine pg_145_1176 rfl ?_
  refine pg_145_1177 rfl ?_
  refine pg_145_1179 ?_
  refine pg_145_1180 ?_
  refine go_top (y := nI (i + 4)) (nx_add rfl (rfl : (4 : Int32) = nI 4)) ?_
  refine pg_145_1181 (n := L) (Or.inr hsc) (i := (i + 4)) rfl (by omega) hL ?_
  refine go_top (y := xs (i + 4)) (((kp_re [2000] fi) (40, 0, 0) _ rfl).trans (hxs _ (by omega))) ?_
  refine pg_145_1182 (sk20 hs) (Nat.le_of_ble_eq_true rfl) (ct_116l2 (x := (xs (i + 1))) (y := (xs (i + 2))) (z := (xs (i + 3))) (w := (xs (i + 4))) hs v1182_g0 v1182_g1 v1182_g2) ?_
  refine pg_145_1185 (lv' := [some (xm_r (40, 0, 0)), some (xm_r (0, 0, 0)), some (xm_r (20, 0, 0)), some (xm_r (30, 0, 0)), some (xm_i (nI i)), some (xm_i (1 : Int32)), some (xm_l (0 : Int64)), none]) rfl ?_
  refine pg_145_1187 rfl ?_
  refine pg_145_1188 (sk20 hs) (Nat.le_of_ble_eq_true rfl) (ct_69  hs) ?_
  refine go_top (y := (1 : Int32)) (by unfold sp_69; simp [xm_up]) ?_
  refine pg_145_1191 rfl ?_
  refine pg_145_1193 (fun _ => ?_) (fun hc => absurd (by decide) hc)
  refine pg_145_1198 rfl ?_
  refine pg_145_1200 (fun _ => ?_) (fun hc => absurd hc (by decide))
  refine pg_145_1214 ?_
  refine pg_145_1274 (y := (nI (i + 5))) (lv' := [some (xm_r (40, 0, 0)), some (xm_r (0, 0, 0)), some (xm_r (20, 0, 0)), some (xm_r (30, 0, 0)), some (xm_i (nI (i + 5))), some (xm_i (1 : Int32)), some (xm_l (0 : Int64)), none]) rfl (nI_add i 5) rfl ?_
  refine pg_145_1277 ?_
  exact K _ _ _
theorem lw_18_b3 {n : Nat} {E : xm_E} {c : Nat × Nat} {fi : FI} {fl : FL} {r : xm_I → Nat → Option xm_I} {L i : Nat} {xs : Nat → Int32} {R : xm_O} (hs : sh n E c r) (hf : fz n fi) (hB : BZ fi) (hsc : E.1 (40, 0, 0) = (110, L)) (hL : L < 100000) (hi : i + 5 ≤ L) (hxs : ∀ j, j < L → fi (40, 0, 0) j = xs j) (hop : xs i &&& 31 = 18) (hx : 200 ≤ (E.1 (E.2.2 c.1)).1) (v1152_v9_g0 : (bI (sp_125 (xs (i + 1)) (xs (i + 2)) (xs (i + 3)))) = 0) (v1182_g0 : ¬ (xs (i + 1)) < 0) (v1182_g1 : ¬ (15 : Int32) < (xs (i + 1))) (v1182_g2 : ¬ (xs (i + 2)) < 0) (v1182_g3 : (15 : Int32) < (xs (i + 2))) (K : ∀ u5 u6 u7 : Option xm_V, xm_G E 8 true 145 43 [some (xm_r (40, 0, 0)), some (xm_r (0, 0, 0)), some (xm_r (20, 0, 0)), some (xm_r (30, 0, 0)), some (xm_i (nI (i + 5))), u5, u6, u7] [] ((c.1 + 1, c.2 + 6), (xm_up fi (20, 0, 0) 0 (1 : Int32)), fl, r) R) : ∀ u5 u6 u7 : Option xm_V, xm_G E 8 true 145 43 [some (xm_r (40, 0, 0)), some (xm_r (0, 0, 0)), some (xm_r (20, 0, 0)), some (xm_r (30, 0, 0)), some (xm_i (nI i)), u5, u6, u7] [] (c, fi, fl, r) R := by
  have hn := sh_n hs
  intro u5 u6 u7
  refine pg_145_43 rfl ?_
  refine pg_145_45 rfl ?_
  refine pg_145_46 (t := 110) (n := L) (Or.inl hsc) ?_
  refine pg_145_47 ?_
  refine pg_145_48 ?_
  refine pg_145_49 (fun hc => absurd hc (lw_go hi hL)) (fun _ => ?_)
  refine pg_145_52 rfl ?_
  refine pg_145_53 rfl ?_
  refine pg_145_55 (n := L) (Or.inr hsc) (i := i) rfl (by omega) hL ?_
  refine go_top (y := xs i) (((kp_re [2000] fi) (40, 0, 0) _ rfl).trans (hxs _ (by omega))) ?_
  refine pg_145_56 ?_
  refine pg_145_58 ?_
  refine go_top (y := (18 : Int32)) hop ?_
  refine pg_145_59 (off := 1067) (t := 1126) (by decide) (by decide) ?_
  refine pg_145_1126 rfl ?_
  refine pg_145_1127 rfl ?_
  refine pg_145_1128 rfl ?_
  refine pg_145_1130 ?_
  refine pg_145_1131 ?_
  refine go_top (y := nI (i + 1)) (nx_add rfl (rfl : (1 : Int32) = nI 1)) ?_
  refine pg_145_1132 (n := L) (Or.inr hsc) (i := (i + 1)) rfl (by omega) hL ?_
  refine go_top (y := xs (i + 1)) (((kp_re [2000] fi) (40, 0, 0) _ rfl).trans (hxs _ (by omega))) ?_
  refine pg_145_1133 rfl ?_
  refine pg_145_1134 rfl ?_
  refine pg_145_1136 ?_
  refine pg_145_1137 ?_
  refine go_top (y := nI (i + 2)) (nx_add rfl (rfl : (2 : Int32) = nI 2)) ?_
  refine pg_145_1138 (n := L) (Or.inr hsc) (i := (i + 2)) rfl (by omega) hL ?_
  refine go_top (y := xs (i + 2)) (((kp_re [2000] fi) (40, 0, 0) _ rfl).trans (hxs _ (by omega))) ?_
  refine pg_145_1139 rfl ?_
  refine pg_145_1140 rfl ?_
  refine pg_145_1142 ?_
  refine pg_145_1143 ?_
  refine go_top (y := nI (i + 3)) (nx_add rfl (rfl : (3 : Int32) = nI 3)) ?_
  refine pg_145_1144 (n := L) (Or.inr hsc) (i := (i + 3)) rfl (by omega) hL ?_
  refine go_top (y := xs (i + 3)) (((kp_re [2000] fi) (40, 0, 0) _ rfl).trans (hxs _ (by omega))) ?_
  refine pg_145_1145 rfl ?_
  refine pg_145_1146 rfl ?_
  refine pg_145_1148 ?_
  refine pg_145_1149 ?_
  refine go_top (y := nI (i + 4)) (nx_add rfl (rfl : (4 : Int32) = nI 4)) ?_
  refine pg_145_1150 (n := L) (Or.inr hsc) (i := (i + 4)) rfl (by omega) hL ?_
  refine go_top (y := xs (i + 4)) (((kp_re [2000] fi) (40, 0, 0) _ rfl).trans (hxs _ (by omega))) ?_
  refine pg_145_1151 rfl ?_
  refine pg_145_1152 (Nat.le_of_ble_eq_true rfl) (ct_141l0 (x := (xs (i + 1))) (y := (xs (i + 2))) (z := (xs (i + 3))) (w := (xs (i + 4))) hs hx v1152_v9_g0) ?_
  have hs := sh_up hs
  refine pg_145_1155 (lv' := [some (xm_r (40, 0, 0)), some (xm_r (0, 0, 0)), some (xm_r (20, 0, 0)), some (xm_r (30, 0, 0)), some (xm_i (nI i)), some (xm_i (1 : Int32)), u6, u7]) rfl ?_
  refine pg_145_1157 rfl ?_
  refine pg_145_1158 rfl ?_
  refine pg_145_1159 rfl ?_
  refine pg_145_1161 ?_
  refine pg_145_1162 ?_
  refine go_top (y := nI (i + 1)) (nx_add rfl (rfl : (1 : Int32) = nI 1)) ?_
  refine pg_145_1163 (n := L) (Or.inr hsc) (i := (i + 1)) rfl (by omega) hL ?_
  refine go_top (y := xs (i + 1)) (((kp_re [2000] fi) (40, 0, 0) _ rfl).trans (hxs _ (by omega))) ?_
  refine pg_145_1164 rfl ?_
  refine pg_145_1165 rfl ?_
  refine pg_145_1167 ?_
  refine pg_145_1168 ?_
  refine go_top (y := nI (i + 2)) (nx_add rfl (rfl : (2 : Int32) = nI 2)) ?_
  refine pg_145_1169 (n := L) (Or.inr hsc) (i := (i + 2)) rfl (by omega) hL ?_
  refine go_top (y := xs (i + 2)) (((kp_re [2000] fi) (40, 0, 0) _ rfl).trans (hxs _ (by omega))) ?_
  refine pg_145_1170 rfl ?_
  refine pg_145_1171 rfl ?_
  refine pg_145_1173 ?_
  refine pg_145_1174 ?_
  refine go_top (y := nI (i + 3)) (nx_add rfl (rfl : (3 : Int32) = nI 3)) ?_
  refine pg_145_1175 (n := L) (Or.inr hsc) (i := (i + 3)) rfl (by omega) hL ?_
  refine go_top (y := xs (i + 3)) (((kp_re [2000] fi) (40, 0, 0) _ rfl).trans (hxs _ (by omega))) ?_
  refine pg_145_1176 rfl ?_
  refine pg_145_1177 rfl ?_
  refine pg_145_1179 ?_
  refine pg_145_1180 ?_
  refine go_top (y := nI (i + 4)) (nx_add rfl (rfl : (4 : Int32) = nI 4)) ?_
  refine pg_145_1181 (n := L) (Or.inr hsc) (i := (i + 4)) rfl (by omega) hL ?_
  refine go_top (y := xs (i + 4)) (((kp_re [2000] fi) (40, 0, 0) _ rfl).trans (hxs _ (by omega))) ?_
  refine pg_145_1182 (sk20 hs) (Nat.le_of_ble_eq_true rfl) (ct_116l3 (x := (xs (i + 1))) (y := (xs (i + 2))) (z := (xs (i + 3))) (w := (xs (i + 4))) hs v1182_g0 v1182_g1 v1182_g2 v1182_g3) ?_
  refine pg_145_1185 (lv' := [some (xm_r (40, 0, 0)), some (xm_r (0, 0, 0)), some (xm_r (20, 0, 0)), some (xm_r (30, 0, 0)), some (xm_i (nI i)), some (xm_i (1 : Int32)), some (xm_l (0 : Int64)), none]) rfl ?_
  refine pg_145_1187 rfl ?_
  refine pg_145_1188 (sk20 hs) (Nat.le_of_ble_eq_true rfl) (ct_69  hs) ?_
  refine go_top (y := (1 : Int32)) (by unfold sp_69; simp [xm_up]) ?_
  refine pg_145_1191 rfl ?_
  refine pg_145_1193 (fun _ => ?_) (fun hc => absurd (by decide) hc)
  refine pg_145_1198 rfl ?_
  refine pg_145_1200 (fun _ => ?_) (fun hc => absurd hc (by decide))
  refine pg_145_1214 ?_
  refine pg_145_1274 (y := (nI (i + 5))) (lv' := [some (xm_r (40, 0, 0)), some (xm_r (0, 0, 0)), some (xm_r (20, 0, 0)), some (xm_r (30, 0, 0)), some (xm_i (nI (i + 5))), some (xm_i (1 : Int32)), some (xm_l (0 : Int64)), none]) rfl (nI_add i 5) rfl ?_
  refine pg_145_1277 ?_
  exact K _ _ _
theorem lw_18_b4 {n : Nat} {E : xm_E} {c : Nat × Nat} {fi : FI} {fl : FL} {r : xm_I → Nat → Option xm_I} {L i : Nat} {xs : Nat → Int32} {R : xm_O} (hs : sh n E c r) (hf : fz n fi) (hB : BZ fi) (hsc : E.1 (40, 0, 0) = (110, L)) (hL : L < 100000) (hi : i + 5 ≤ L) (hxs : ∀ j, j < L → fi (40, 0, 0) j = xs j) (hop : xs i &&& 31 = 18) (hx : 200 ≤ (E.1 (E.2.2 c.1)).1) (v1152_v9_g0 : (bI (sp_125 (xs (i + 1)) (xs (i + 2)) (xs (i + 3)))) = 0) (v1182_g0 : ¬ (xs (i + 1)) < 0) (v1182_g1 : ¬ (15 : Int32) < (xs (i + 1))) (v1182_g2 : ¬ (xs (i + 2)) < 0) (v1182_g3 : ¬ (15 : Int32) < (xs (i + 2))) (v1182_g4 : (xs (i + 3)) < 0) (K : ∀ u5 u6 u7 : Option xm_V, xm_G E 8 true 145 43 [some (xm_r (40, 0, 0)), some (xm_r (0, 0, 0)), some (xm_r (20, 0, 0)), some (xm_r (30, 0, 0)), some (xm_i (nI (i + 5))), u5, u6, u7] [] ((c.1 + 1, c.2 + 6), (xm_up fi (20, 0, 0) 0 (1 : Int32)), fl, r) R) : ∀ u5 u6 u7 : Option xm_V, xm_G E 8 true 145 43 [some (xm_r (40, 0, 0)), some (xm_r (0, 0, 0)), some (xm_r (20, 0, 0)), some (xm_r (30, 0, 0)), some (xm_i (nI i)), u5, u6, u7] [] (c, fi, fl, r) R := by
  have hn := sh_n hs
  intro u5 u6 u7
  refine pg_145_43 rfl ?_
  refine pg_145_45 rfl ?_
  refine pg_145_46 (t := 110) (n := L) (Or.inl hsc) ?_
  refine pg_145_47 ?_
  refine pg_145_48 ?_
  refine pg_145_49 (fun hc => absurd hc (lw_go hi hL)) (fun _ => ?_)
  refine pg_145_52 rfl ?_
  refine pg_145_53 rfl ?_
  refine pg_145_55 (n := L) (Or.inr hsc) (i := i) rfl (by omega) hL ?_
  refine go_top (y := xs i) (((kp_re [2000] fi) (40, 0, 0) _ rfl).trans (hxs _ (by omega))) ?_
  refine pg_145_56 ?_
  refine pg_145_58 ?_
  refine go_top (y := (18 : Int32)) hop ?_
  refine pg_145_59 (off := 1067) (t := 1126) (by decide) (by decide) ?_
  refine pg_145_1126 rfl ?_
  refine pg_145_1127 rfl ?_
  refine pg_145_1128 rfl ?_
  refine pg_145_1130 ?_
  refine pg_145_1131 ?_
  refine go_top (y := nI (i + 1)) (nx_add rfl (rfl : (1 : Int32) = nI 1)) ?_
  refine pg_145_1132 (n := L) (Or.inr hsc) (i := (i + 1)) rfl (by omega) hL ?_
  refine go_top (y := xs (i + 1)) (((kp_re [2000] fi) (40, 0, 0) _ rfl).trans (hxs _ (by omega))) ?_
  refine pg_145_1133 rfl ?_
  refine pg_145_1134 rfl ?_
  refine pg_145_1136 ?_
  refine pg_145_1137 ?_
  refine go_top (y := nI (i + 2)) (nx_add rfl (rfl : (2 : Int32) = nI 2)) ?_
  refine pg_145_1138 (n := L) (Or.inr hsc) (i := (i + 2)) rfl (by omega) hL ?_
  refine go_top (y := xs (i + 2)) (((kp_re [2000] fi) (40, 0, 0) _ rfl).trans (hxs _ (by omega))) ?_
  refine pg_145_1139 rfl ?_
  refine pg_145_1140 rfl ?_
  refine pg_145_1142 ?_
  refine pg_145_1143 ?_
  refine go_top (y := nI (i + 3)) (nx_add rfl (rfl : (3 : Int32) = nI 3)) ?_
  refine pg_145_1144 (n := L) (Or.inr hsc) (i := (i + 3)) rfl (by omega) hL ?_
  refine go_top (y := xs (i + 3)) (((kp_re [2000] fi) (40, 0, 0) _ rfl).trans (hxs _ (by omega))) ?_
  refine pg_145_1145 rfl ?_
  refine pg_145_1146 rfl ?_
  refine pg_145_1148 ?_
  refine pg_145_1149 ?_
  refine go_top (y := nI (i + 4)) (nx_add rfl (rfl : (4 : Int32) = nI 4)) ?_
  refine pg_145_1150 (n := L) (Or.inr hsc) (i := (i + 4)) rfl (by omega) hL ?_
  refine go_top (y := xs (i + 4)) (((kp_re [2000] fi) (40, 0, 0) _ rfl).trans (hxs _ (by omega))) ?_
  refine pg_145_1151 rfl ?_
  refine pg_145_1152 (Nat.le_of_ble_eq_true rfl) (ct_141l0 (x := (xs (i + 1))) (y := (xs (i + 2))) (z := (xs (i + 3))) (w := (xs (i + 4))) hs hx v1152_v9_g0) ?_
  have hs := sh_up hs
  refine pg_145_1155 (lv' := [some (xm_r (40, 0, 0)), some (xm_r (0, 0, 0)), some (xm_r (20, 0, 0)), some (xm_r (30, 0, 0)), some (xm_i (nI i)), some (xm_i (1 : Int32)), u6, u7]) rfl ?_
  refine pg_145_1157 rfl ?_
  refine pg_145_1158 rfl ?_
  refine pg_145_1159 rfl ?_
  refine pg_145_1161 ?_
  refine pg_145_1162 ?_
  refine go_top (y := nI (i + 1)) (nx_add rfl (rfl : (1 : Int32) = nI 1)) ?_
  refine pg_145_1163 (n := L) (Or.inr hsc) (i := (i + 1)) rfl (by omega) hL ?_
  refine go_top (y := xs (i + 1)) (((kp_re [2000] fi) (40, 0, 0) _ rfl).trans (hxs _ (by omega))) ?_
  refine pg_145_1164 rfl ?_
  refine pg_145_1165 rfl ?_
  refine pg_145_1167 ?_
  refine pg_145_1168 ?_
  refine go_top (y := nI (i + 2)) (nx_add rfl (rfl : (2 : Int32) = nI 2)) ?_
  refine pg_145_1169 (n := L) (Or.inr hsc) (i := (i + 2)) rfl (by omega) hL ?_
  refine go_top (y := xs (i + 2)) (((kp_re [2000] fi) (40, 0, 0) _ rfl).trans (hxs _ (by omega))) ?_
  refine pg_145_1170 rfl ?_
  refine pg_145_1171 rfl ?_
  refine pg_145_1173 ?_
  refine pg_145_1174 ?_
  refine go_top (y := nI (i + 3)) (nx_add rfl (rfl : (3 : Int32) = nI 3)) ?_
  refine pg_145_1175 (n := L) (Or.inr hsc) (i := (i + 3)) rfl (by omega) hL ?_
  refine go_top (y := xs (i + 3)) (((kp_re [2000] fi) (40, 0, 0) _ rfl).trans (hxs _ (by omega))) ?_
  refine pg_145_1176 rfl ?_
  refine pg_145_1177 rfl ?_
  refine pg_145_1179 ?_
  refine pg_145_1180 ?_
  refine go_top (y := nI (i + 4)) (nx_add rfl (rfl : (4 : Int32) = nI 4)) ?_
  refine pg_145_1181 (n := L) (Or.inr hsc) (i := (i + 4)) rfl (by omega) hL ?_
  refine go_top (y := xs (i + 4)) (((kp_re [2000] fi) (40, 0, 0) _ rfl).trans (hxs _ (by omega))) ?_
  refine pg_145_1182 (sk20 hs) (Nat.le_of_ble_eq_true rfl) (ct_116l4 (x := (xs (i + 1))) (y := (xs (i + 2))) (z := (xs (i + 3))) (w := (xs (i + 4))) hs v1182_g0 v1182_g1 v1182_g2 v1182_g3 v1182_g4) ?_
  refine pg_145_1185 (lv' := [some (xm_r (40, 0, 0)), some (xm_r (0, 0, 0)), some (xm_r (20, 0, 0)), some (xm_r (30, 0, 0)), some (xm_i (nI i)), some (xm_i (1 : Int32)), some (xm_l (0 : Int64)), none]) rfl ?_
  refine pg_145_1187 rfl ?_
  refine pg_145_1188 (sk20 hs) (Nat.le_of_ble_eq_true rfl) (ct_69  hs) ?_
  refine go_top (y := (1 : Int32)) (by unfold sp_69; simp [xm_up]) ?_
  refine pg_145_1191 rfl ?_
  refine pg_145_1193 (fun _ => ?_) (fun hc => absurd (by decide) hc)
  refine pg_145_1198 rfl ?_
  refine pg_145_1200 (fun _ => ?_) (fun hc => absurd hc (by decide))
  refine pg_145_1214 ?_
  refine pg_145_1274 (y := (nI (i + 5))) (lv' := [some (xm_r (40, 0, 0)), some (xm_r (0, 0, 0)), some (xm_r (20, 0, 0)), some (xm_r (30, 0, 0)), some (xm_i (nI (i + 5))), some (xm_i (1 : Int32)), some (xm_l (0 : Int64)), none]) rfl (nI_add i 5) rfl ?_
  refine pg_145_1277 ?_
  exact K _ _ _
theorem lw_18_b5 {n : Nat} {E : xm_E} {c : Nat × Nat} {fi : FI} {fl : FL} {r : xm_I → Nat → Option xm_I} {L i : Nat} {xs : Nat → Int32} {R : xm_O} (hs : sh n E c r) (hf : fz n fi) (hB : BZ fi) (hsc : E.1 (40, 0, 0) = (110, L)) (hL : L < 100000) (hi : i + 5 ≤ L) (hxs : ∀ j, j < L → fi (40, 0, 0) j = xs j) (hop : xs i &&& 31 = 18) (hx : 200 ≤ (E.1 (E.2.2 c.1)).1) (v1152_v9_g0 : (bI (sp_125 (xs (i + 1)) (xs (i + 2)) (xs (i + 3)))) = 0) (v1182_g0 : ¬ (xs (i + 1)) < 0) (v1182_g1 : ¬ (15 : Int32) < (xs (i + 1))) (v1182_g2 : ¬ (xs (i + 2)) < 0) (v1182_g3 : ¬ (15 : Int32) < (xs (i + 2))) (v1182_g4 : ¬ (xs (i + 3)) < 0) (v1182_g5 : ¬ (xs (i + 3)) ≤ (255 : Int32)) (K : ∀ u5 u6 u7 : Option xm_V, xm_G E 8 true 145 43 [some (xm_r (40, 0, 0)), some (xm_r (0, 0, 0)), some (xm_r (20, 0, 0)), some (xm_r (30, 0, 0)), some (xm_i (nI (i + 5))), u5, u6, u7] [] ((c.1 + 1, c.2 + 6), (xm_up fi (20, 0, 0) 0 (1 : Int32)), fl, r) R) : ∀ u5 u6 u7 : Option xm_V, xm_G E 8 true 145 43 [some (xm_r (40, 0, 0)), some (xm_r (0, 0, 0)), some (xm_r (20, 0, 0)), some (xm_r (30, 0, 0)), some (xm_i (nI i)), u5, u6, u7] [] (c, fi, fl, r) R := by
  have hn := sh_n hs
  intro u5 u6 u7
  refine pg_145_43 rfl ?_
  refine pg_145_45 rfl ?_
  refine pg_145_46 (t := 110) (n := L) (Or.inl hsc) ?_
  refine pg_145_47 ?_
  refine pg_145_48 ?_
  refine pg_145_49 (fun hc => absurd hc (lw_go hi hL)) (fun _ => ?_)
  refine pg_145_52 rfl ?_
  refine pg_145_53 rfl ?_
  refine pg_145_55 (n := L) (Or.inr hsc) (i := i) rfl (by omega) hL ?_
  refine go_top (y := xs i) (((kp_re [2000] fi) (40, 0, 0) _ rfl).trans (hxs _ (by omega))) ?_
  refine pg_145_56 ?_
  refine pg_145_58 ?_
  refine go_top (y := (18 : Int32)) hop ?_
  refine pg_145_59 (off := 1067) (t := 1126) (by decide) (by decide) ?_
  refine pg_145_1126 rfl ?_
  refine pg_145_1127 rfl ?_
  refine pg_145_1128 rfl ?_
  refine pg_145_1130 ?_
  refine pg_145_1131 ?_
  refine go_top (y := nI (i + 1)) (nx_add rfl (rfl : (1 : Int32) = nI 1)) ?_
  refine pg_145_1132 (n := L) (Or.inr hsc) (i := (i + 1)) rfl (by omega) hL ?_
  refine go_top (y := xs (i + 1)) (((kp_re [2000] fi) (40, 0, 0) _ rfl).trans (hxs _ (by omega))) ?_
  refine pg_145_1133 rfl ?_
  refine pg_145_1134 rfl ?_
  refine pg_145_1136 ?_
  refine pg_145_1137 ?_
  refine go_top (y := nI (i + 2)) (nx_add rfl (rfl : (2 : Int32) = nI 2)) ?_
  refine pg_145_1138 (n := L) (Or.inr hsc) (i := (i + 2)) rfl (by omega) hL ?_
  refine go_top (y := xs (i + 2)) (((kp_re [2000] fi) (40, 0, 0) _ rfl).trans (hxs _ (by omega))) ?_
  refine pg_145_1139 rfl ?_
  refine pg_145_1140 rfl ?_
  refine pg_145_1142 ?_
  refine pg_145_1143 ?_
  refine go_top (y := nI (i + 3)) (nx_add rfl (rfl : (3 : Int32) = nI 3)) ?_
  refine pg_145_1144 (n := L) (Or.inr hsc) (i := (i + 3)) rfl (by omega) hL ?_
  refine go_top (y := xs (i + 3)) (((kp_re [2000] fi) (40, 0, 0) _ rfl).trans (hxs _ (by omega))) ?_
  refine pg_145_1145 rfl ?_
  refine pg_145_1146 rfl ?_
  refine pg_145_1148 ?_
  refine pg_145_1149 ?_
  refine go_top (y := nI (i + 4)) (nx_add rfl (rfl : (4 : Int32) = nI 4)) ?_
  refine pg_145_1150 (n := L) (Or.inr hsc) (i := (i + 4)) rfl (by omega) hL ?_
  refine go_top (y := xs (i + 4)) (((kp_re [2000] fi) (40, 0, 0) _ rfl).trans (hxs _ (by omega))) ?_
  refine pg_145_1151 rfl ?_
  refine pg_145_1152 (Nat.le_of_ble_eq_true rfl) (ct_141l0 (x := (xs (i + 1))) (y := (xs (i + 2))) (z := (xs (i + 3))) (w := (xs (i + 4))) hs hx v1152_v9_g0) ?_
  have hs := sh_up hs
  refine pg_145_1155 (lv' := [some (xm_r (40, 0, 0)), some (xm_r (0, 0, 0)), some (xm_r (20, 0, 0)), some (xm_r (30, 0, 0)), some (xm_i (nI i)), some (xm_i (1 : Int32)), u6, u7]) rfl ?_
  refine pg_145_1157 rfl ?_
  refine pg_145_1158 rfl ?_
  refine pg_145_1159 rfl ?_
  refine pg_145_1161 ?_
  refine pg_145_1162 ?_
  refine go_top (y := nI (i + 1)) (nx_add rfl (rfl : (1 : Int32) = nI 1)) ?_
  refine pg_145_1163 (n := L) (Or.inr hsc) (i := (i + 1)) rfl (by omega) hL ?_
  refine go_top (y := xs (i + 1)) (((kp_re [2000] fi) (40, 0, 0) _ rfl).trans (hxs _ (by omega))) ?_
  refine pg_145_1164 rfl ?_
  refine pg_145_1165 rfl ?_
  refine pg_145_1167 ?_
  refine pg_145_1168 ?_
  refine go_top (y := nI (i + 2)) (nx_add rfl (rfl : (2 : Int32) = nI 2)) ?_
  refine pg_145_1169 (n := L) (Or.inr hsc) (i := (i + 2)) rfl (by omega) hL ?_
  refine go_top (y := xs (i + 2)) (((kp_re [2000] fi) (40, 0, 0) _ rfl).trans (hxs _ (by omega))) ?_
  refine pg_145_1170 rfl ?_
  refine pg_145_1171 rfl ?_
  refine pg_145_1173 ?_
  refine pg_145_1174 ?_
  refine go_top (y := nI (i + 3)) (nx_add rfl (rfl : (3 : Int32) = nI 3)) ?_
  refine pg_145_1175 (n := L) (Or.inr hsc) (i := (i + 3)) rfl (by omega) hL ?_
  refine go_top (y := xs (i + 3)) (((kp_re [2000] fi) (40, 0, 0) _ rfl).trans (hxs _ (by omega))) ?_
  refine pg_145_1176 rfl ?_
  refine pg_145_1177 rfl ?_
  refine pg_145_1179 ?_
  refine pg_145_1180 ?_
  refine go_top (y := nI (i + 4)) (nx_add rfl (rfl : (4 : Int32) = nI 4)) ?_
  refine pg_145_1181 (n := L) (Or.inr hsc) (i := (i + 4)) rfl (by omega) hL ?_
  refine go_top (y := xs (i + 4)) (((kp_re [2000] fi) (40, 0, 0) _ rfl).trans (hxs _ (by omega))) ?_
  refine pg_145_1182 (sk20 hs) (Nat.le_of_ble_eq_true rfl) (ct_116l6 (x := (xs (i + 1))) (y := (xs (i + 2))) (z := (xs (i + 3))) (w := (xs (i + 4))) hs v1182_g0 v1182_g1 v1182_g2 v1182_g3 v1182_g4 v1182_g5) ?_
  refine pg_145_1185 (lv' := [some (xm_r (40, 0, 0)), some (xm_r (0, 0, 0)), some (xm_r (20, 0, 0)), some (xm_r (30, 0, 0)), some (xm_i (nI i)), some (xm_i (1 : Int32)), some (xm_l (0 : Int64)), none]) rfl ?_
  refine pg_145_1187 rfl ?_
  refine pg_145_1188 (sk20 hs) (Nat.le_of_ble_eq_true rfl) (ct_69  hs) ?_
  refine go_top (y := (1 : Int32)) (by unfold sp_69; simp [xm_up]) ?_
  refine pg_145_1191 rfl ?_
  refine pg_145_1193 (fun _ => ?_) (fun hc => absurd (by decide) hc)
  refine pg_145_1198 rfl ?_
  refine pg_145_1200 (fun _ => ?_) (fun hc => absurd hc (by decide))
  refine pg_145_1214 ?_
  refine pg_145_1274 (y := (nI (i + 5))) (lv' := [some (xm_r (40, 0, 0)), some (xm_r (0, 0, 0)), some (xm_r (20, 0, 0)), some (xm_r (30, 0, 0)), some (xm_i (nI (i + 5))), some (xm_i (1 : Int32)), some (xm_l (0 : Int64)), none]) rfl (nI_add i 5) rfl ?_
  refine pg_145_1277 ?_
  exact K _ _ _
theorem lw_19_l {n : Nat} {E : xm_E} {c : Nat × Nat} {fi : FI} {fl : FL} {r : xm_I → Nat → Option xm_I} {L i : Nat} {xs : Nat → Int32} {R : xm_O} (hs : sh n E c r) (hf : fz n fi) (hB : BZ fi) (hsc : E.1 (40, 0, 0) = (110, L)) (hL : L < 100000) (hi : i + 5 ≤ L) (hxs : ∀ j, j < L → fi (40, 0, 0) j = xs j) (hop : xs i &&& 31 = 19) (g0 : (bI (sp_118 ((((xs (i + 1)).toInt64) <<< ((32 : Int32).toInt64 &&& 63)) ||| (((xs (i + 2)).toInt64) &&& (4294967295 : Int64))))) = (bI (sp_77 ((((xs (i + 1)).toInt64) <<< ((32 : Int32).toInt64 &&& 63)) ||| (((xs (i + 2)).toInt64) &&& (4294967295 : Int64)))))) (K : ∀ u5 u6 u7 : Option xm_V, xm_G E 8 true 145 43 [some (xm_r (40, 0, 0)), some (xm_r (0, 0, 0)), some (xm_r (20, 0, 0)), some (xm_r (30, 0, 0)), some (xm_i (nI (i + 5))), u5, u6, u7] [] (c, (xm_up fi (20, 0, 0) 0 (0 : Int32)), fl, r) R) : ∀ u5 u6 u7 : Option xm_V, xm_G E 8 true 145 43 [some (xm_r (40, 0, 0)), some (xm_r (0, 0, 0)), some (xm_r (20, 0, 0)), some (xm_r (30, 0, 0)), some (xm_i (nI i)), u5, u6, u7] [] (c, fi, fl, r) R := by
  have hn := sh_n hs
  intro u5 u6 u7
  refine pg_145_43 rfl ?_
  refine pg_145_45 rfl ?_
  refine pg_145_46 (t := 110) (n := L) (Or.inl hsc) ?_
  refine pg_145_47 ?_
  refine pg_145_48 ?_
  refine pg_145_49 (fun hc => absurd hc (lw_go hi hL)) (fun _ => ?_)
  refine pg_145_52 rfl ?_
  refine pg_145_53 rfl ?_
  refine pg_145_55 (n := L) (Or.inr hsc) (i := i) rfl (by omega) hL ?_
  refine go_top (y := xs i) (((kp_re [2000] fi) (40, 0, 0) _ rfl).trans (hxs _ (by omega))) ?_
  refine pg_145_56 ?_
  refine pg_145_58 ?_
  refine go_top (y := (19 : Int32)) hop ?_
  refine pg_145_59 (off := 1158) (t := 1217) (by decide) (by decide) ?_
  refine pg_145_1217 rfl ?_
  refine pg_145_1218 rfl ?_
  refine pg_145_1219 rfl ?_
  refine pg_145_1221 ?_
  refine pg_145_1222 ?_
  refine go_top (y := nI (i + 1)) (nx_add rfl (rfl : (1 : Int32) = nI 1)) ?_
  refine pg_145_1223 (n := L) (Or.inr hsc) (i := (i + 1)) rfl (by omega) hL ?_
  refine go_top (y := xs (i + 1)) (((kp_re [2000] fi) (40, 0, 0) _ rfl).trans (hxs _ (by omega))) ?_
  refine pg_145_1224 ?_
  refine pg_145_1225 ?_
  refine pg_145_1227 ?_
  refine pg_145_1228 rfl ?_
  refine pg_145_1229 rfl ?_
  refine pg_145_1231 ?_
  refine pg_145_1232 ?_
  refine go_top (y := nI (i + 2)) (nx_add rfl (rfl : (2 : Int32) = nI 2)) ?_
  refine pg_145_1233 (n := L) (Or.inr hsc) (i := (i + 2)) rfl (by omega) hL ?_
  refine go_top (y := xs (i + 2)) (((kp_re [2000] fi) (40, 0, 0) _ rfl).trans (hxs _ (by omega))) ?_
  refine pg_145_1234 ?_
  refine pg_145_1235 ?_
  refine pg_145_1238 ?_
  refine pg_145_1239 ?_
  refine pg_145_1240 (sk0 hs) (Nat.le_of_ble_eq_true rfl) (ct_6l0 (f := ((((xs (i + 1)).toInt64) <<< ((32 : Int32).toInt64 &&& 63)) ||| (((xs (i + 2)).toInt64) &&& (4294967295 : Int64)))) hs) ?_
  refine pg_145_1243 rfl ?_
  refine pg_145_1244 rfl ?_
  refine pg_145_1245 rfl ?_
  refine pg_145_1247 ?_
  refine pg_145_1248 ?_
  refine go_top (y := nI (i + 1)) (nx_add rfl (rfl : (1 : Int32) = nI 1)) ?_
  refine pg_145_1249 (n := L) (Or.inr hsc) (i := (i + 1)) rfl (by omega) hL ?_
  refine go_top (y := xs (i + 1)) (((kp_re [2000] fi) (40, 0, 0) _ rfl).trans (hxs _ (by omega))) ?_
  refine pg_145_1250 ?_
  refine pg_145_1251 ?_
  refine pg_145_1253 ?_
  refine pg_145_1254 rfl ?_
  refine pg_145_1255 rfl ?_
  refine pg_145_1257 ?_
  refine pg_145_1258 ?_
  refine go_top (y := nI (i + 2)) (nx_add rfl (rfl : (2 : Int32) = nI 2)) ?_
  refine pg_145_1259 (n := L) (Or.inr hsc) (i := (i + 2)) rfl (by omega) hL ?_
  refine go_top (y := xs (i + 2)) (((kp_re [2000] fi) (40, 0, 0) _ rfl).trans (hxs _ (by omega))) ?_
  refine pg_145_1260 ?_
  refine pg_145_1261 ?_
  refine pg_145_1264 ?_
  refine pg_145_1265 ?_
  refine pg_145_1266 (sk20 hs) (Nat.le_of_ble_eq_true rfl) (ct_117l0 (f := ((((xs (i + 1)).toInt64) <<< ((32 : Int32).toInt64 &&& 63)) ||| (((xs (i + 2)).toInt64) &&& (4294967295 : Int64)))) hs) ?_
  refine pg_145_1269 (fun _ => ?_) (fun hc => absurd g0 hc)
  refine pg_145_1274 (y := (nI (i + 5))) (lv' := [some (xm_r (40, 0, 0)), some (xm_r (0, 0, 0)), some (xm_r (20, 0, 0)), some (xm_r (30, 0, 0)), some (xm_i (nI (i + 5))), u5, u6, u7]) rfl (nI_add i 5) rfl ?_
  refine pg_145_1277 ?_
  exact K _ _ _
theorem lw_20_d {n : Nat} {E : xm_E} {c : Nat × Nat} {fi : FI} {fl : FL} {r : xm_I → Nat → Option xm_I} {L i : Nat} {xs : Nat → Int32} {R : xm_O} (hs : sh n E c r) (hf : fz n fi) (hB : BZ fi) (hsc : E.1 (40, 0, 0) = (110, L)) (hL : L < 100000) (hi : i + 5 ≤ L) (hxs : ∀ j, j < L → fi (40, 0, 0) j = xs j) (hop : xs i &&& 31 = 20) (K : ∀ u5 u6 u7 : Option xm_V, xm_G E 8 true 145 43 [some (xm_r (40, 0, 0)), some (xm_r (0, 0, 0)), some (xm_r (20, 0, 0)), some (xm_r (30, 0, 0)), some (xm_i (nI (i + 5))), u5, u6, u7] [] (c, fi, fl, r) R) : ∀ u5 u6 u7 : Option xm_V, xm_G E 8 true 145 43 [some (xm_r (40, 0, 0)), some (xm_r (0, 0, 0)), some (xm_r (20, 0, 0)), some (xm_r (30, 0, 0)), some (xm_i (nI i)), u5, u6, u7] [] (c, fi, fl, r) R := by
  have hn := sh_n hs
  intro u5 u6 u7
  refine pg_145_43 rfl ?_
  refine pg_145_45 rfl ?_
  refine pg_145_46 (t := 110) (n := L) (Or.inl hsc) ?_
  refine pg_145_47 ?_
  refine pg_145_48 ?_
  refine pg_145_49 (fun hc => absurd hc (lw_go hi hL)) (fun _ => ?_)
  refine pg_145_52 rfl ?_
  refine pg_145_53 rfl ?_
  refine pg_145_55 (n := L) (Or.inr hsc) (i := i) rfl (by omega) hL ?_
  refine go_top (y := xs i) (((kp_re [] fi) (40, 0, 0) _ rfl).trans (hxs _ (by omega))) ?_
  refine pg_145_56 ?_
  refine pg_145_58 ?_
  refine go_top (y := (20 : Int32)) hop ?_
  refine pg_145_59 (off := 1215) (t := 1274) (by decide) (by decide) ?_
  refine pg_145_1274 (y := (nI (i + 5))) (lv' := [some (xm_r (40, 0, 0)), some (xm_r (0, 0, 0)), some (xm_r (20, 0, 0)), some (xm_r (30, 0, 0)), some (xm_i (nI (i + 5))), u5, u6, u7]) rfl (nI_add i 5) rfl ?_
  refine pg_145_1277 ?_
  exact K _ _ _
theorem lw_21_d {n : Nat} {E : xm_E} {c : Nat × Nat} {fi : FI} {fl : FL} {r : xm_I → Nat → Option xm_I} {L i : Nat} {xs : Nat → Int32} {R : xm_O} (hs : sh n E c r) (hf : fz n fi) (hB : BZ fi) (hsc : E.1 (40, 0, 0) = (110, L)) (hL : L < 100000) (hi : i + 5 ≤ L) (hxs : ∀ j, j < L → fi (40, 0, 0) j = xs j) (hop : xs i &&& 31 = 21) (K : ∀ u5 u6 u7 : Option xm_V, xm_G E 8 true 145 43 [some (xm_r (40, 0, 0)), some (xm_r (0, 0, 0)), some (xm_r (20, 0, 0)), some (xm_r (30, 0, 0)), some (xm_i (nI (i + 5))), u5, u6, u7] [] (c, fi, fl, r) R) : ∀ u5 u6 u7 : Option xm_V, xm_G E 8 true 145 43 [some (xm_r (40, 0, 0)), some (xm_r (0, 0, 0)), some (xm_r (20, 0, 0)), some (xm_r (30, 0, 0)), some (xm_i (nI i)), u5, u6, u7] [] (c, fi, fl, r) R := by
  have hn := sh_n hs
  intro u5 u6 u7
  refine pg_145_43 rfl ?_
  refine pg_145_45 rfl ?_
  refine pg_145_46 (t := 110) (n := L) (Or.inl hsc) ?_
  refine pg_145_47 ?_
  refine pg_145_48 ?_
  refine pg_145_49 (fun hc => absurd hc (lw_go hi hL)) (fun _ => ?_)
  refine pg_145_52 rfl ?_
  refine pg_145_53 rfl ?_
  refine pg_145_55 (n := L) (Or.inr hsc) (i := i) rfl (by omega) hL ?_
  refine go_top (y := xs i) (((kp_re [] fi) (40, 0, 0) _ rfl).trans (hxs _ (by omega))) ?_
  refine pg_145_56 ?_
  refine pg_145_58 ?_
  refine go_top (y := (21 : Int32)) hop ?_
  refine pg_145_59 (off := 1215) (t := 1274) (by decide) (by decide) ?_
  refine pg_145_1274 (y := (nI (i + 5))) (lv' := [some (xm_r (40, 0, 0)), some (xm_r (0, 0, 0)), some (xm_r (20, 0, 0)), some (xm_r (30, 0, 0)), some (xm_i (nI (i + 5))), u5, u6, u7]) rfl (nI_add i 5) rfl ?_
  refine pg_145_1277 ?_
  exact K _ _ _
theorem lw_22_d {n : Nat} {E : xm_E} {c : Nat × Nat} {fi : FI} {fl : FL} {r : xm_I → Nat → Option xm_I} {L i : Nat} {xs : Nat → Int32} {R : xm_O} (hs : sh n E c r) (hf : fz n fi) (hB : BZ fi) (hsc : E.1 (40, 0, 0) = (110, L)) (hL : L < 100000) (hi : i + 5 ≤ L) (hxs : ∀ j, j < L → fi (40, 0, 0) j = xs j) (hop : xs i &&& 31 = 22) (K : ∀ u5 u6 u7 : Option xm_V, xm_G E 8 true 145 43 [some (xm_r (40, 0, 0)), some (xm_r (0, 0, 0)), some (xm_r (20, 0, 0)), some (xm_r (30, 0, 0)), some (xm_i (nI (i + 5))), u5, u6, u7] [] (c, fi, fl, r) R) : ∀ u5 u6 u7 : Option xm_V, xm_G E 8 true 145 43 [some (xm_r (40, 0, 0)), some (xm_r (0, 0, 0)), some (xm_r (20, 0, 0)), some (xm_r (30, 0, 0)), some (xm_i (nI i)), u5, u6, u7] [] (c, fi, fl, r) R := by
  have hn := sh_n hs
  intro u5 u6 u7
  refine pg_145_43 rfl ?_
  refine pg_145_45 rfl ?_
  refine pg_145_46 (t := 110) (n := L) (Or.inl hsc) ?_
  refine pg_145_47 ?_
  refine pg_145_48 ?_
  refine pg_145_49 (fun hc => absurd hc (lw_go hi hL)) (fun _ => ?_)
  refine pg_145_52 rfl ?_
  refine pg_145_53 rfl ?_
  refine pg_145_55 (n := L) (Or.inr hsc) (i := i) rfl (by omega) hL ?_
  refine go_top (y := xs i) (((kp_re [] fi) (40, 0, 0) _ rfl).trans (hxs _ (by omega))) ?_
  refine pg_145_56 ?_
  refine pg_145_58 ?_
  refine go_top (y := (22 : Int32)) hop ?_
  refine pg_145_59 (off := 1215) (t := 1274) (by decide) (by decide) ?_
  refine pg_145_1274 (y := (nI (i + 5))) (lv' := [some (xm_r (40, 0, 0)), some (xm_r (0, 0, 0)), some (xm_r (20, 0, 0)), some (xm_r (30, 0, 0)), some (xm_i (nI (i + 5))), u5, u6, u7]) rfl (nI_add i 5) rfl ?_
  refine pg_145_1277 ?_
  exact K _ _ _
theorem lw_23_d {n : Nat} {E : xm_E} {c : Nat × Nat} {fi : FI} {fl : FL} {r : xm_I → Nat → Option xm_I} {L i : Nat} {xs : Nat → Int32} {R : xm_O} (hs : sh n E c r) (hf : fz n fi) (hB : BZ fi) (hsc : E.1 (40, 0, 0) = (110, L)) (hL : L < 100000) (hi : i + 5 ≤ L) (hxs : ∀ j, j < L → fi (40, 0, 0) j = xs j) (hop : xs i &&& 31 = 23) (K : ∀ u5 u6 u7 : Option xm_V, xm_G E 8 true 145 43 [some (xm_r (40, 0, 0)), some (xm_r (0, 0, 0)), some (xm_r (20, 0, 0)), some (xm_r (30, 0, 0)), some (xm_i (nI (i + 5))), u5, u6, u7] [] (c, fi, fl, r) R) : ∀ u5 u6 u7 : Option xm_V, xm_G E 8 true 145 43 [some (xm_r (40, 0, 0)), some (xm_r (0, 0, 0)), some (xm_r (20, 0, 0)), some (xm_r (30, 0, 0)), some (xm_i (nI i)), u5, u6, u7] [] (c, fi, fl, r) R := by
  have hn := sh_n hs
  intro u5 u6 u7
  refine pg_145_43 rfl ?_
  refine pg_145_45 rfl ?_
  refine pg_145_46 (t := 110) (n := L) (Or.inl hsc) ?_
  refine pg_145_47 ?_
  refine pg_145_48 ?_
  refine pg_145_49 (fun hc => absurd hc (lw_go hi hL)) (fun _ => ?_)
  refine pg_145_52 rfl ?_
  refine pg_145_53 rfl ?_
  refine pg_145_55 (n := L) (Or.inr hsc) (i := i) rfl (by omega) hL ?_
  refine go_top (y := xs i) (((kp_re [] fi) (40, 0, 0) _ rfl).trans (hxs _ (by omega))) ?_
  refine pg_145_56 ?_
  refine pg_145_58 ?_
  refine go_top (y := (23 : Int32)) hop ?_
  refine pg_145_59 (off := 1215) (t := 1274) (by decide) (by decide) ?_
  refine pg_145_1274 (y := (nI (i + 5))) (lv' := [some (xm_r (40, 0, 0)), some (xm_r (0, 0, 0)), some (xm_r (20, 0, 0)), some (xm_r (30, 0, 0)), some (xm_i (nI (i + 5))), u5, u6, u7]) rfl (nI_add i 5) rfl ?_
  refine pg_145_1277 ?_
  exact K _ _ _
theorem lw_24_d {n : Nat} {E : xm_E} {c : Nat × Nat} {fi : FI} {fl : FL} {r : xm_I → Nat → Option xm_I} {L i : Nat} {xs : Nat → Int32} {R : xm_O} (hs : sh n E c r) (hf : fz n fi) (hB : BZ fi) (hsc : E.1 (40, 0, 0) = (110, L)) (hL : L < 100000) (hi : i + 5 ≤ L) (hxs : ∀ j, j < L → fi (40, 0, 0) j = xs j) (hop : xs i &&& 31 = 24) (K : ∀ u5 u6 u7 : Option xm_V, xm_G E 8 true 145 43 [some (xm_r (40, 0, 0)), some (xm_r (0, 0, 0)), some (xm_r (20, 0, 0)), some (xm_r (30, 0, 0)), some (xm_i (nI (i + 5))), u5, u6, u7] [] (c, fi, fl, r) R) : ∀ u5 u6 u7 : Option xm_V, xm_G E 8 true 145 43 [some (xm_r (40, 0, 0)), some (xm_r (0, 0, 0)), some (xm_r (20, 0, 0)), some (xm_r (30, 0, 0)), some (xm_i (nI i)), u5, u6, u7] [] (c, fi, fl, r) R := by
  have hn := sh_n hs
  intro u5 u6 u7
  refine pg_145_43 rfl ?_
  refine pg_145_45 rfl ?_
  refine pg_145_46 (t := 110) (n := L) (Or.inl hsc) ?_
  refine pg_145_47 ?_
  refine pg_145_48 ?_
  refine pg_145_49 (fun hc => absurd hc (lw_go hi hL)) (fun _ => ?_)
  refine pg_145_52 rfl ?_
  refine pg_145_53 rfl ?_
  refine pg_145_55 (n := L) (Or.inr hsc) (i := i) rfl (by omega) hL ?_
  refine go_top (y := xs i) (((kp_re [] fi) (40, 0, 0) _ rfl).trans (hxs _ (by omega))) ?_
  refine pg_145_56 ?_
  refine pg_145_58 ?_
  refine go_top (y := (24 : Int32)) hop ?_
  refine pg_145_59 (off := 1215) (t := 1274) (by decide) (by decide) ?_
  refine pg_145_1274 (y := (nI (i + 5))) (lv' := [some (xm_r (40, 0, 0)), some (xm_r (0, 0, 0)), some (xm_r (20, 0, 0)), some (xm_r (30, 0, 0)), some (xm_i (nI (i + 5))), u5, u6, u7]) rfl (nI_add i 5) rfl ?_
  refine pg_145_1277 ?_
  exact K _ _ _
theorem lw_25_d {n : Nat} {E : xm_E} {c : Nat × Nat} {fi : FI} {fl : FL} {r : xm_I → Nat → Option xm_I} {L i : Nat} {xs : Nat → Int32} {R : xm_O} (hs : sh n E c r) (hf : fz n fi) (hB : BZ fi) (hsc : E.1 (40, 0, 0) = (110, L)) (hL : L < 100000) (hi : i + 5 ≤ L) (hxs : ∀ j, j < L → fi (40, 0, 0) j = xs j) (hop : xs i &&& 31 = 25) (K : ∀ u5 u6 u7 : Option xm_V, xm_G E 8 true 145 43 [some (xm_r (40, 0, 0)), some (xm_r (0, 0, 0)), some (xm_r (20, 0, 0)), some (xm_r (30, 0, 0)), some (xm_i (nI (i + 5))), u5, u6, u7] [] (c, fi, fl, r) R) : ∀ u5 u6 u7 : Option xm_V, xm_G E 8 true 145 43 [some (xm_r (40, 0, 0)), some (xm_r (0, 0, 0)), some (xm_r (20, 0, 0)), some (xm_r (30, 0, 0)), some (xm_i (nI i)), u5, u6, u7] [] (c, fi, fl, r) R := by
  have hn := sh_n hs
  intro u5 u6 u7
  refine pg_145_43 rfl ?_
  refine pg_145_45 rfl ?_
  refine pg_145_46 (t := 110) (n := L) (Or.inl hsc) ?_
  refine pg_145_47 ?_
  refine pg_145_48 ?_
  refine pg_145_49 (fun hc => absurd hc (lw_go hi hL)) (fun _ => ?_)
  refine pg_145_52 rfl ?_
  refine pg_145_53 rfl ?_
  refine pg_145_55 (n := L) (Or.inr hsc) (i := i) rfl (by omega) hL ?_
  refine go_top (y := xs i) (((kp_re [] fi) (40, 0, 0) _ rfl).trans (hxs _ (by omega))) ?_
  refine pg_145_56 ?_
  refine pg_145_58 ?_
  refine go_top (y := (25 : Int32)) hop ?_
  refine pg_145_59 (off := 1215) (t := 1274) (by decide) (by decide) ?_
  refine pg_145_1274 (y := (nI (i + 5))) (lv' := [some (xm_r (40, 0, 0)), some (xm_r (0, 0, 0)), some (xm_r (20, 0, 0)), some (xm_r (30, 0, 0)), some (xm_i (nI (i + 5))), u5, u6, u7]) rfl (nI_add i 5) rfl ?_
  refine pg_145_1277 ?_
  exact K _ _ _
theorem lw_26_d {n : Nat} {E : xm_E} {c : Nat × Nat} {fi : FI} {fl : FL} {r : xm_I → Nat → Option xm_I} {L i : Nat} {xs : Nat → Int32} {R : xm_O} (hs : sh n E c r) (hf : fz n fi) (hB : BZ fi) (hsc : E.1 (40, 0, 0) = (110, L)) (hL : L < 100000) (hi : i + 5 ≤ L) (hxs : ∀ j, j < L → fi (40, 0, 0) j = xs j) (hop : xs i &&& 31 = 26) (K : ∀ u5 u6 u7 : Option xm_V, xm_G E 8 true 145 43 [some (xm_r (40, 0, 0)), some (xm_r (0, 0, 0)), some (xm_r (20, 0, 0)), some (xm_r (30, 0, 0)), some (xm_i (nI (i + 5))), u5, u6, u7] [] (c, fi, fl, r) R) : ∀ u5 u6 u7 : Option xm_V, xm_G E 8 true 145 43 [some (xm_r (40, 0, 0)), some (xm_r (0, 0, 0)), some (xm_r (20, 0, 0)), some (xm_r (30, 0, 0)), some (xm_i (nI i)), u5, u6, u7] [] (c, fi, fl, r) R := by
  have hn := sh_n hs
  intro u5 u6 u7
  refine pg_145_43 rfl ?_
  refine pg_145_45 rfl ?_
  refine pg_145_46 (t := 110) (n := L) (Or.inl hsc) ?_
  refine pg_145_47 ?_
  refine pg_145_48 ?_
  refine pg_145_49 (fun hc => absurd hc (lw_go hi hL)) (fun _ => ?_)
  refine pg_145_52 rfl ?_
  refine pg_145_53 rfl ?_
  refine pg_145_55 (n := L) (Or.inr hsc) (i := i) rfl (by omega) hL ?_
  refine go_top (y := xs i) (((kp_re [] fi) (40, 0, 0) _ rfl).trans (hxs _ (by omega))) ?_
  refine pg_145_56 ?_
  refine pg_145_58 ?_
  refine go_top (y := (26 : Int32)) hop ?_
  refine pg_145_59 (off := 1215) (t := 1274) (by decide) (by decide) ?_
  refine pg_145_1274 (y := (nI (i + 5))) (lv' := [some (xm_r (40, 0, 0)), some (xm_r (0, 0, 0)), some (xm_r (20, 0, 0)), some (xm_r (30, 0, 0)), some (xm_i (nI (i + 5))), u5, u6, u7]) rfl (nI_add i 5) rfl ?_
  refine pg_145_1277 ?_
  exact K _ _ _
theorem lw_27_d {n : Nat} {E : xm_E} {c : Nat × Nat} {fi : FI} {fl : FL} {r : xm_I → Nat → Option xm_I} {L i : Nat} {xs : Nat → Int32} {R : xm_O} (hs : sh n E c r) (hf : fz n fi) (hB : BZ fi) (hsc : E.1 (40, 0, 0) = (110, L)) (hL : L < 100000) (hi : i + 5 ≤ L) (hxs : ∀ j, j < L → fi (40, 0, 0) j = xs j) (hop : xs i &&& 31 = 27) (K : ∀ u5 u6 u7 : Option xm_V, xm_G E 8 true 145 43 [some (xm_r (40, 0, 0)), some (xm_r (0, 0, 0)), some (xm_r (20, 0, 0)), some (xm_r (30, 0, 0)), some (xm_i (nI (i + 5))), u5, u6, u7] [] (c, fi, fl, r) R) : ∀ u5 u6 u7 : Option xm_V, xm_G E 8 true 145 43 [some (xm_r (40, 0, 0)), some (xm_r (0, 0, 0)), some (xm_r (20, 0, 0)), some (xm_r (30, 0, 0)), some (xm_i (nI i)), u5, u6, u7] [] (c, fi, fl, r) R := by
  have hn := sh_n hs
  intro u5 u6 u7
  refine pg_145_43 rfl ?_
  refine pg_145_45 rfl ?_
  refine pg_145_46 (t := 110) (n := L) (Or.inl hsc) ?_
  refine pg_145_47 ?_
  refine pg_145_48 ?_
  refine pg_145_49 (fun hc => absurd hc (lw_go hi hL)) (fun _ => ?_)
  refine pg_145_52 rfl ?_
  refine pg_145_53 rfl ?_
  refine pg_145_55 (n := L) (Or.inr hsc) (i := i) rfl (by omega) hL ?_
  refine go_top (y := xs i) (((kp_re [] fi) (40, 0, 0) _ rfl).trans (hxs _ (by omega))) ?_
  refine pg_145_56 ?_
  refine pg_145_58 ?_
  refine go_top (y := (27 : Int32)) hop ?_
  refine pg_145_59 (off := 1215) (t := 1274) (by decide) (by decide) ?_
  refine pg_145_1274 (y := (nI (i + 5))) (lv' := [some (xm_r (40, 0, 0)), some (xm_r (0, 0, 0)), some (xm_r (20, 0, 0)), some (xm_r (30, 0, 0)), some (xm_i (nI (i + 5))), u5, u6, u7]) rfl (nI_add i 5) rfl ?_
  refine pg_145_1277 ?_
  exact K _ _ _
theorem lw_28_d {n : Nat} {E : xm_E} {c : Nat × Nat} {fi : FI} {fl : FL} {r : xm_I → Nat → Option xm_I} {L i : Nat} {xs : Nat → Int32} {R : xm_O} (hs : sh n E c r) (hf : fz n fi) (hB : BZ fi) (hsc : E.1 (40, 0, 0) = (110, L)) (hL : L < 100000) (hi : i + 5 ≤ L) (hxs : ∀ j, j < L → fi (40, 0, 0) j = xs j) (hop : xs i &&& 31 = 28) (K : ∀ u5 u6 u7 : Option xm_V, xm_G E 8 true 145 43 [some (xm_r (40, 0, 0)), some (xm_r (0, 0, 0)), some (xm_r (20, 0, 0)), some (xm_r (30, 0, 0)), some (xm_i (nI (i + 5))), u5, u6, u7] [] (c, fi, fl, r) R) : ∀ u5 u6 u7 : Option xm_V, xm_G E 8 true 145 43 [some (xm_r (40, 0, 0)), some (xm_r (0, 0, 0)), some (xm_r (20, 0, 0)), some (xm_r (30, 0, 0)), some (xm_i (nI i)), u5, u6, u7] [] (c, fi, fl, r) R := by
  have hn := sh_n hs
  intro u5 u6 u7
  refine pg_145_43 rfl ?_
  refine pg_145_45 rfl ?_
  refine pg_145_46 (t := 110) (n := L) (Or.inl hsc) ?_
  refine pg_145_47 ?_
  refine pg_145_48 ?_
  refine pg_145_49 (fun hc => absurd hc (lw_go hi hL)) (fun _ => ?_)
  refine pg_145_52 rfl ?_
  refine pg_145_53 rfl ?_
  refine pg_145_55 (n := L) (Or.inr hsc) (i := i) rfl (by omega) hL ?_
  refine go_top (y := xs i) (((kp_re [] fi) (40, 0, 0) _ rfl).trans (hxs _ (by omega))) ?_
  refine pg_145_56 ?_
  refine pg_145_58 ?_
  refine go_top (y := (28 : Int32)) hop ?_
  refine pg_145_59 (off := 1215) (t := 1274) (by decide) (by decide) ?_
  refine pg_145_1274 (y := (nI (i + 5))) (lv' := [some (xm_r (40, 0, 0)), some (xm_r (0, 0, 0)), some (xm_r (20, 0, 0)), some (xm_r (30, 0, 0)), some (xm_i (nI (i + 5))), u5, u6, u7]) rfl (nI_add i 5) rfl ?_
  refine pg_145_1277 ?_
  exact K _ _ _
theorem lw_29_d {n : Nat} {E : xm_E} {c : Nat × Nat} {fi : FI} {fl : FL} {r : xm_I → Nat → Option xm_I} {L i : Nat} {xs : Nat → Int32} {R : xm_O} (hs : sh n E c r) (hf : fz n fi) (hB : BZ fi) (hsc : E.1 (40, 0, 0) = (110, L)) (hL : L < 100000) (hi : i + 5 ≤ L) (hxs : ∀ j, j < L → fi (40, 0, 0) j = xs j) (hop : xs i &&& 31 = 29) (K : ∀ u5 u6 u7 : Option xm_V, xm_G E 8 true 145 43 [some (xm_r (40, 0, 0)), some (xm_r (0, 0, 0)), some (xm_r (20, 0, 0)), some (xm_r (30, 0, 0)), some (xm_i (nI (i + 5))), u5, u6, u7] [] (c, fi, fl, r) R) : ∀ u5 u6 u7 : Option xm_V, xm_G E 8 true 145 43 [some (xm_r (40, 0, 0)), some (xm_r (0, 0, 0)), some (xm_r (20, 0, 0)), some (xm_r (30, 0, 0)), some (xm_i (nI i)), u5, u6, u7] [] (c, fi, fl, r) R := by
  have hn := sh_n hs
  intro u5 u6 u7
  refine pg_145_43 rfl ?_
  refine pg_145_45 rfl ?_
  refine pg_145_46 (t := 110) (n := L) (Or.inl hsc) ?_
  refine pg_145_47 ?_
  refine pg_145_48 ?_
  refine pg_145_49 (fun hc => absurd hc (lw_go hi hL)) (fun _ => ?_)
  refine pg_145_52 rfl ?_
  refine pg_145_53 rfl ?_
  refine pg_145_55 (n := L) (Or.inr hsc) (i := i) rfl (by omega) hL ?_
  refine go_top (y := xs i) (((kp_re [] fi) (40, 0, 0) _ rfl).trans (hxs _ (by omega))) ?_
  refine pg_145_56 ?_
  refine pg_145_58 ?_
  refine go_top (y := (29 : Int32)) hop ?_
  refine pg_145_59 (off := 1215) (t := 1274) (by decide) (by decide) ?_
  refine pg_145_1274 (y := (nI (i + 5))) (lv' := [some (xm_r (40, 0, 0)), some (xm_r (0, 0, 0)), some (xm_r (20, 0, 0)), some (xm_r (30, 0, 0)), some (xm_i (nI (i + 5))), u5, u6, u7]) rfl (nI_add i 5) rfl ?_
  refine pg_145_1277 ?_
  exact K _ _ _
theorem lw_30_d {n : Nat} {E : xm_E} {c : Nat × Nat} {fi : FI} {fl : FL} {r : xm_I → Nat → Option xm_I} {L i : Nat} {xs : Nat → Int32} {R : xm_O} (hs : sh n E c r) (hf : fz n fi) (hB : BZ fi) (hsc : E.1 (40, 0, 0) = (110, L)) (hL : L < 100000) (hi : i + 5 ≤ L) (hxs : ∀ j, j < L → fi (40, 0, 0) j = xs j) (hop : xs i &&& 31 = 30) (K : ∀ u5 u6 u7 : Option xm_V, xm_G E 8 true 145 43 [some (xm_r (40, 0, 0)), some (xm_r (0, 0, 0)), some (xm_r (20, 0, 0)), some (xm_r (30, 0, 0)), some (xm_i (nI (i + 5))), u5, u6, u7] [] (c, fi, fl, r) R) : ∀ u5 u6 u7 : Option xm_V, xm_G E 8 true 145 43 [some (xm_r (40, 0, 0)), some (xm_r (0, 0, 0)), some (xm_r (20, 0, 0)), some (xm_r (30, 0, 0)), some (xm_i (nI i)), u5, u6, u7] [] (c, fi, fl, r) R := by
  have hn := sh_n hs
  intro u5 u6 u7
  refine pg_145_43 rfl ?_
  refine pg_145_45 rfl ?_
  refine pg_145_46 (t := 110) (n := L) (Or.inl hsc) ?_
  refine pg_145_47 ?_
  refine pg_145_48 ?_
  refine pg_145_49 (fun hc => absurd hc (lw_go hi hL)) (fun _ => ?_)
  refine pg_145_52 rfl ?_
  refine pg_145_53 rfl ?_
  refine pg_145_55 (n := L) (Or.inr hsc) (i := i) rfl (by omega) hL ?_
  refine go_top (y := xs i) (((kp_re [] fi) (40, 0, 0) _ rfl).trans (hxs _ (by omega))) ?_
  refine pg_145_56 ?_
  refine pg_145_58 ?_
  refine go_top (y := (30 : Int32)) hop ?_
  refine pg_145_59 (off := 1215) (t := 1274) (by decide) (by decide) ?_
  refine pg_145_1274 (y := (nI (i + 5))) (lv' := [some (xm_r (40, 0, 0)), some (xm_r (0, 0, 0)), some (xm_r (20, 0, 0)), some (xm_r (30, 0, 0)), some (xm_i (nI (i + 5))), u5, u6, u7]) rfl (nI_add i 5) rfl ?_
  refine pg_145_1277 ?_
  exact K _ _ _
theorem lw_31_d {n : Nat} {E : xm_E} {c : Nat × Nat} {fi : FI} {fl : FL} {r : xm_I → Nat → Option xm_I} {L i : Nat} {xs : Nat → Int32} {R : xm_O} (hs : sh n E c r) (hf : fz n fi) (hB : BZ fi) (hsc : E.1 (40, 0, 0) = (110, L)) (hL : L < 100000) (hi : i + 5 ≤ L) (hxs : ∀ j, j < L → fi (40, 0, 0) j = xs j) (hop : xs i &&& 31 = 31) (K : ∀ u5 u6 u7 : Option xm_V, xm_G E 8 true 145 43 [some (xm_r (40, 0, 0)), some (xm_r (0, 0, 0)), some (xm_r (20, 0, 0)), some (xm_r (30, 0, 0)), some (xm_i (nI (i + 5))), u5, u6, u7] [] (c, fi, fl, r) R) : ∀ u5 u6 u7 : Option xm_V, xm_G E 8 true 145 43 [some (xm_r (40, 0, 0)), some (xm_r (0, 0, 0)), some (xm_r (20, 0, 0)), some (xm_r (30, 0, 0)), some (xm_i (nI i)), u5, u6, u7] [] (c, fi, fl, r) R := by
  have hn := sh_n hs
  intro u5 u6 u7
  refine pg_145_43 rfl ?_
  refine pg_145_45 rfl ?_
  refine pg_145_46 (t := 110) (n := L) (Or.inl hsc) ?_
  refine pg_145_47 ?_
  refine pg_145_48 ?_
  refine pg_145_49 (fun hc => absurd hc (lw_go hi hL)) (fun _ => ?_)
  refine pg_145_52 rfl ?_
  refine pg_145_53 rfl ?_
  refine pg_145_55 (n := L) (Or.inr hsc) (i := i) rfl (by omega) hL ?_
  refine go_top (y := xs i) (((kp_re [] fi) (40, 0, 0) _ rfl).trans (hxs _ (by omega))) ?_
  refine pg_145_56 ?_
  refine pg_145_58 ?_
  refine go_top (y := (31 : Int32)) hop ?_
  refine pg_145_59 (off := 1215) (t := 1274) (by decide) (by decide) ?_
  refine pg_145_1274 (y := (nI (i + 5))) (lv' := [some (xm_r (40, 0, 0)), some (xm_r (0, 0, 0)), some (xm_r (20, 0, 0)), some (xm_r (30, 0, 0)), some (xm_i (nI (i + 5))), u5, u6, u7]) rfl (nI_add i 5) rfl ?_
  refine pg_145_1277 ?_
  exact K _ _ _
