/-! ===== the law: one call of both sides ===== -/
section LB
variable {L n i : Nat} {I : Nat → Nat → Int32} {R : Nat → Nat → Option Nat} {X : Nat → Int32} {Q : Option Value × mj_H → Prop}
def bz (v : Int32) : Bool := !decide (v = 0)
set_option maxHeartbeats 4000000 in
theorem lc_2 (h : lw_in n X I R) (hn : n < 1000) (hL : L ≤ 2560) (hi : i + 5 ≤ L) (hk : ∀ I' R', lw_in (n + 1) X I' R' → mj_T pj_P 139 838 [.ref 0, .ref 1, .ref 87, .int (nI i)] [] (mz_SH L, I', R') Q) : mj_T pj_P 139 180 [.ref 0, .ref 1, .ref 87, .int (nI i)] [] (mz_SH L, I, R) Q := by
  obtain ⟨sn, sx, pn, px, S, H, f, w, ms, rs, hs, hc, hm, hmm, hr, hX⟩ := h
  have h0 : (mz_SH L)[0]? = some (64, L) := rfl
  have h1 := sh_1 L
  have h87 := sm_87 L
  have hx := hX
  refine mj_b_rload_n (hE := fe_139_180) (hv := rfl) (k := ?_)
  refine mj_b_rload_n (hE := fe_139_181) (hv := rfl) (k := ?_)
  refine mj_b_iload_n (hE := fe_139_182) (hv := rfl) (k := ?_)
  refine mj_b_iconst (hE := fe_139_183) (k := ?_)
  refine mj_b_iadd (hE := fe_139_184) (k := ?_)
  refine mj_b_ialdN (hE := fe_139_185) (v := X (i + 1)) (c := i + 1) (hM := h0) (ht := Or.inl rfl) (hj := nI_add i 1) (hc := by omega) (hn := by omega) (hv := hx _) (k := ?_)
  refine mj_b_rload_n (hE := fe_139_186) (hv := rfl) (k := ?_)
  refine mj_b_iload_n (hE := fe_139_187) (hv := rfl) (k := ?_)
  refine mj_b_iconst (hE := fe_139_188) (k := ?_)
  refine mj_b_iadd (hE := fe_139_189) (k := ?_)
  refine mj_b_ialdN (hE := fe_139_190) (v := X (i + 2)) (c := i + 2) (hM := h0) (ht := Or.inl rfl) (hj := nI_add i 2) (hc := by omega) (hn := by omega) (hv := hx _) (k := ?_)
  refine mj_b_call (hE := fe_139_191) (hi := in_18) (h1 := g18 (X (i + 1)) (X (i + 2)) hr.2.1 hc) (hc := mj_cok_v rfl rfl h1) (ha := rfl) (hr := rfl) ?_
  rintro v' M1 ⟨sn', sx', pn', px', I1, R1, hM, hc1, fI1, fR1⟩
  cases hM
  have hm1 := hm.frC fI1
  have hmm1 := hmm.frC fR1
  have hX1 : ∀ j, I1 0 j = X j := fun j => by rw [fI1 _ _ (by omega)]; exact hX j
  clear hx
  have hx := hX1
  refine mj_b_rload_n (hE := fe_139_194) (hv := rfl) (k := ?_)
  refine mj_b_rload_n (hE := fe_139_195) (hv := rfl) (k := ?_)
  refine mj_b_iload_n (hE := fe_139_196) (hv := rfl) (k := ?_)
  refine mj_b_iconst (hE := fe_139_197) (k := ?_)
  refine mj_b_iadd (hE := fe_139_198) (k := ?_)
  refine mj_b_ialdN (hE := fe_139_199) (v := X (i + 1)) (c := i + 1) (hM := h0) (ht := Or.inl rfl) (hj := nI_add i 1) (hc := by omega) (hn := by omega) (hv := hx _) (k := ?_)
  refine mj_b_rload_n (hE := fe_139_200) (hv := rfl) (k := ?_)
  refine mj_b_iload_n (hE := fe_139_201) (hv := rfl) (k := ?_)
  refine mj_b_iconst (hE := fe_139_202) (k := ?_)
  refine mj_b_iadd (hE := fe_139_203) (k := ?_)
  refine mj_b_ialdN (hE := fe_139_204) (v := X (i + 2)) (c := i + 2) (hM := h0) (ht := Or.inl rfl) (hj := nI_add i 2) (hc := by omega) (hn := by omega) (hv := hx _) (k := ?_)
  refine mj_b_call (hE := fe_139_205) (hi := in_91) (h1 := g91 (X (i + 1)) (X (i + 2)) hmm1 hm1 hr) (hc := mj_cok_v rfl rfl h87) (ha := rfl) (hr := rfl) ?_
  rintro v' M2 ⟨I2, rs2, hM, fM, hall, hp⟩
  cases hM
  refine mj_b_if2 (hE := fe_139_208) (kt := fun g => ?_) (kf := fun g => absurd rfl (of_decide_eq_false g))
  exact hk I2 R1 (lw_mk hc1 fM hall hp hmm1 (wf_o_put hr.2.1 _ _) hX1)
set_option maxHeartbeats 4000000 in
theorem lc_3 (h : lw_in n X I R) (hn : n < 1000) (hL : L ≤ 2560) (hi : i + 5 ≤ L) (hk : ∀ I' R', lw_in (n + 1) X I' R' → mj_T pj_P 139 838 [.ref 0, .ref 1, .ref 87, .int (nI i)] [] (mz_SH L, I', R') Q) : mj_T pj_P 139 213 [.ref 0, .ref 1, .ref 87, .int (nI i)] [] (mz_SH L, I, R) Q := by
  obtain ⟨sn, sx, pn, px, S, H, f, w, ms, rs, hs, hc, hm, hmm, hr, hX⟩ := h
  have h0 : (mz_SH L)[0]? = some (64, L) := rfl
  have h1 := sh_1 L
  have h87 := sm_87 L
  have hx := hX
  refine mj_b_rload_n (hE := fe_139_213) (hv := rfl) (k := ?_)
  refine mj_b_rload_n (hE := fe_139_214) (hv := rfl) (k := ?_)
  refine mj_b_iload_n (hE := fe_139_215) (hv := rfl) (k := ?_)
  refine mj_b_iconst (hE := fe_139_216) (k := ?_)
  refine mj_b_iadd (hE := fe_139_217) (k := ?_)
  refine mj_b_ialdN (hE := fe_139_218) (v := X (i + 1)) (c := i + 1) (hM := h0) (ht := Or.inl rfl) (hj := nI_add i 1) (hc := by omega) (hn := by omega) (hv := hx _) (k := ?_)
  refine mj_b_call (hE := fe_139_219) (hi := in_50) (h1 := g50 (X (i + 1)) hr.2.1 hc) (hc := mj_cok_v rfl rfl h1) (ha := rfl) (hr := rfl) ?_
  rintro v' M1 ⟨sn', sx', pn', px', I1, R1, hM, hc1, fI1, fR1⟩
  cases hM
  have hm1 := hm.frC fI1
  have hmm1 := hmm.frC fR1
  have hX1 : ∀ j, I1 0 j = X j := fun j => by rw [fI1 _ _ (by omega)]; exact hX j
  clear hx
  have hx := hX1
  refine mj_b_rload_n (hE := fe_139_222) (hv := rfl) (k := ?_)
  refine mj_b_rload_n (hE := fe_139_223) (hv := rfl) (k := ?_)
  refine mj_b_iload_n (hE := fe_139_224) (hv := rfl) (k := ?_)
  refine mj_b_iconst (hE := fe_139_225) (k := ?_)
  refine mj_b_iadd (hE := fe_139_226) (k := ?_)
  refine mj_b_ialdN (hE := fe_139_227) (v := X (i + 1)) (c := i + 1) (hM := h0) (ht := Or.inl rfl) (hj := nI_add i 1) (hc := by omega) (hn := by omega) (hv := hx _) (k := ?_)
  refine mj_b_call (hE := fe_139_228) (hi := in_112) (h1 := g112 (X (i + 1)) hmm1 hm1 hr) (hc := mj_cok_v rfl rfl h87) (ha := rfl) (hr := rfl) ?_
  rintro v' M2 ⟨I2, rs2, hM, fM, hall, hp⟩
  cases hM
  refine mj_b_if2 (hE := fe_139_231) (kt := fun g => ?_) (kf := fun g => absurd rfl (of_decide_eq_false g))
  exact hk I2 R1 (lw_mk hc1 fM hall hp hmm1 (wf_o_mk hr.2.1 _) hX1)
set_option maxHeartbeats 4000000 in
theorem lc_4 (h : lw_in n X I R) (hn : n < 1000) (hL : L ≤ 2560) (hi : i + 5 ≤ L) (hk : ∀ I' R', lw_in (n + 1) X I' R' → mj_T pj_P 139 838 [.ref 0, .ref 1, .ref 87, .int (nI i)] [] (mz_SH L, I', R') Q) : mj_T pj_P 139 236 [.ref 0, .ref 1, .ref 87, .int (nI i)] [] (mz_SH L, I, R) Q := by
  obtain ⟨sn, sx, pn, px, S, H, f, w, ms, rs, hs, hc, hm, hmm, hr, hX⟩ := h
  have h0 : (mz_SH L)[0]? = some (64, L) := rfl
  have h1 := sh_1 L
  have h87 := sm_87 L
  have hx := hX
  refine mj_b_rload_n (hE := fe_139_236) (hv := rfl) (k := ?_)
  refine mj_b_rload_n (hE := fe_139_237) (hv := rfl) (k := ?_)
  refine mj_b_iload_n (hE := fe_139_238) (hv := rfl) (k := ?_)
  refine mj_b_iconst (hE := fe_139_239) (k := ?_)
  refine mj_b_iadd (hE := fe_139_240) (k := ?_)
  refine mj_b_ialdN (hE := fe_139_241) (v := X (i + 1)) (c := i + 1) (hM := h0) (ht := Or.inl rfl) (hj := nI_add i 1) (hc := by omega) (hn := by omega) (hv := hx _) (k := ?_)
  refine mj_b_call (hE := fe_139_242) (hi := in_52) (h1 := g52 (X (i + 1)) hr.2.1 hc) (hc := mj_cok_v rfl rfl h1) (ha := rfl) (hr := rfl) ?_
  rintro v' M1 ⟨sn', sx', pn', px', I1, R1, hM, hc1, fI1, fR1⟩
  cases hM
  have hm1 := hm.frC fI1
  have hmm1 := hmm.frC fR1
  have hX1 : ∀ j, I1 0 j = X j := fun j => by rw [fI1 _ _ (by omega)]; exact hX j
  clear hx
  have hx := hX1
  refine mj_b_rload_n (hE := fe_139_245) (hv := rfl) (k := ?_)
  refine mj_b_rload_n (hE := fe_139_246) (hv := rfl) (k := ?_)
  refine mj_b_iload_n (hE := fe_139_247) (hv := rfl) (k := ?_)
  refine mj_b_iconst (hE := fe_139_248) (k := ?_)
  refine mj_b_iadd (hE := fe_139_249) (k := ?_)
  refine mj_b_ialdN (hE := fe_139_250) (v := X (i + 1)) (c := i + 1) (hM := h0) (ht := Or.inl rfl) (hj := nI_add i 1) (hc := by omega) (hn := by omega) (hv := hx _) (k := ?_)
  refine mj_b_call (hE := fe_139_251) (hi := in_113) (h1 := g113 (X (i + 1)) hmm1 hm1 hr) (hc := mj_cok_v rfl rfl h87) (ha := rfl) (hr := rfl) ?_
  rintro v' M2 ⟨I2, rs2, hM, fM, hall, hp⟩
  cases hM
  refine mj_b_if2 (hE := fe_139_254) (kt := fun g => ?_) (kf := fun g => absurd rfl (of_decide_eq_false g))
  exact hk I2 R1 (lw_mk hc1 fM hall hp hmm1 (wf_o_del hr.2.1 _) hX1)
set_option maxHeartbeats 4000000 in
theorem lc_5 (h : lw_in n X I R) (hn : n < 1000) (hL : L ≤ 2560) (hi : i + 5 ≤ L) (hk : ∀ I' R', lw_in (n + 1) X I' R' → mj_T pj_P 139 838 [.ref 0, .ref 1, .ref 87, .int (nI i)] [] (mz_SH L, I', R') Q) : mj_T pj_P 139 259 [.ref 0, .ref 1, .ref 87, .int (nI i)] [] (mz_SH L, I, R) Q := by
  obtain ⟨sn, sx, pn, px, S, H, f, w, ms, rs, hs, hc, hm, hmm, hr, hX⟩ := h
  have h0 : (mz_SH L)[0]? = some (64, L) := rfl
  have h1 := sh_1 L
  have h87 := sm_87 L
  have hx := hX
  have d275 : ∀ (v : Int32) (st : List Value) (M : mj_H), mj_T pj_P 139 283 [.ref 0, .ref 1, .ref 87, .int (nI i)] (.int (pz (bz v)) :: st) M Q → mj_T pj_P 139 275 [.ref 0, .ref 1, .ref 87, .int (nI i)] (.int v :: st) M Q := by
    intro v st M hQ
    refine mj_b_if1 (hE := fe_139_275) (kt := fun g => ?_) (kf := fun g => ?_)
    · simp only [mj_cnd, decide_eq_true_eq] at g
      refine mj_b_iconst (hE := fe_139_282) (k := ?_)
      have e : bz v = false := by simp [bz, g]
      rw [e] at hQ
      exact hQ
    · simp only [mj_cnd, decide_eq_false_iff_not] at g
      refine mj_b_iconst (hE := fe_139_278) (k := ?_)
      refine mj_b_goto (hE := fe_139_279) (k := ?_)
      have e : bz v = true := by simp [bz, g]
      rw [e] at hQ
      exact hQ
  have d288 : ∀ (v : Int32) (st : List Value) (M : mj_H), mj_T pj_P 139 296 [.ref 0, .ref 1, .ref 87, .int (nI i)] (.int (pz (bz v)) :: st) M Q → mj_T pj_P 139 288 [.ref 0, .ref 1, .ref 87, .int (nI i)] (.int v :: st) M Q := by
    intro v st M hQ
    refine mj_b_if1 (hE := fe_139_288) (kt := fun g => ?_) (kf := fun g => ?_)
    · simp only [mj_cnd, decide_eq_true_eq] at g
      refine mj_b_iconst (hE := fe_139_295) (k := ?_)
      have e : bz v = false := by simp [bz, g]
      rw [e] at hQ
      exact hQ
    · simp only [mj_cnd, decide_eq_false_iff_not] at g
      refine mj_b_iconst (hE := fe_139_291) (k := ?_)
      refine mj_b_goto (hE := fe_139_292) (k := ?_)
      have e : bz v = true := by simp [bz, g]
      rw [e] at hQ
      exact hQ
  have d315 : ∀ (v : Int32) (st : List Value) (M : mj_H), mj_T pj_P 139 323 [.ref 0, .ref 1, .ref 87, .int (nI i)] (.int (pz (bz v)) :: st) M Q → mj_T pj_P 139 315 [.ref 0, .ref 1, .ref 87, .int (nI i)] (.int v :: st) M Q := by
    intro v st M hQ
    refine mj_b_if1 (hE := fe_139_315) (kt := fun g => ?_) (kf := fun g => ?_)
    · simp only [mj_cnd, decide_eq_true_eq] at g
      refine mj_b_iconst (hE := fe_139_322) (k := ?_)
      have e : bz v = false := by simp [bz, g]
      rw [e] at hQ
      exact hQ
    · simp only [mj_cnd, decide_eq_false_iff_not] at g
      refine mj_b_iconst (hE := fe_139_318) (k := ?_)
      refine mj_b_goto (hE := fe_139_319) (k := ?_)
      have e : bz v = true := by simp [bz, g]
      rw [e] at hQ
      exact hQ
  have d328 : ∀ (v : Int32) (st : List Value) (M : mj_H), mj_T pj_P 139 336 [.ref 0, .ref 1, .ref 87, .int (nI i)] (.int (pz (bz v)) :: st) M Q → mj_T pj_P 139 328 [.ref 0, .ref 1, .ref 87, .int (nI i)] (.int v :: st) M Q := by
    intro v st M hQ
    refine mj_b_if1 (hE := fe_139_328) (kt := fun g => ?_) (kf := fun g => ?_)
    · simp only [mj_cnd, decide_eq_true_eq] at g
      refine mj_b_iconst (hE := fe_139_335) (k := ?_)
      have e : bz v = false := by simp [bz, g]
      rw [e] at hQ
      exact hQ
    · simp only [mj_cnd, decide_eq_false_iff_not] at g
      refine mj_b_iconst (hE := fe_139_331) (k := ?_)
      refine mj_b_goto (hE := fe_139_332) (k := ?_)
      have e : bz v = true := by simp [bz, g]
      rw [e] at hQ
      exact hQ
  refine mj_b_rload_n (hE := fe_139_259) (hv := rfl) (k := ?_)
  refine mj_b_rload_n (hE := fe_139_260) (hv := rfl) (k := ?_)
  refine mj_b_iload_n (hE := fe_139_261) (hv := rfl) (k := ?_)
  refine mj_b_iconst (hE := fe_139_262) (k := ?_)
  refine mj_b_iadd (hE := fe_139_263) (k := ?_)
  refine mj_b_ialdN (hE := fe_139_264) (v := X (i + 1)) (c := i + 1) (hM := h0) (ht := Or.inl rfl) (hj := nI_add i 1) (hc := by omega) (hn := by omega) (hv := hx _) (k := ?_)
  refine mj_b_rload_n (hE := fe_139_265) (hv := rfl) (k := ?_)
  refine mj_b_iload_n (hE := fe_139_266) (hv := rfl) (k := ?_)
  refine mj_b_iconst (hE := fe_139_267) (k := ?_)
  refine mj_b_iadd (hE := fe_139_268) (k := ?_)
  refine mj_b_ialdN (hE := fe_139_269) (v := X (i + 2)) (c := i + 2) (hM := h0) (ht := Or.inl rfl) (hj := nI_add i 2) (hc := by omega) (hn := by omega) (hv := hx _) (k := ?_)
  refine mj_b_rload_n (hE := fe_139_270) (hv := rfl) (k := ?_)
  refine mj_b_iload_n (hE := fe_139_271) (hv := rfl) (k := ?_)
  refine mj_b_iconst (hE := fe_139_272) (k := ?_)
  refine mj_b_iadd (hE := fe_139_273) (k := ?_)
  refine mj_b_ialdN (hE := fe_139_274) (v := X (i + 3)) (c := i + 3) (hM := h0) (ht := Or.inl rfl) (hj := nI_add i 3) (hc := by omega) (hn := by omega) (hv := hx _) (k := ?_)
  refine d275 _ _ _ ?_
  refine mj_b_rload_n (hE := fe_139_283) (hv := rfl) (k := ?_)
  refine mj_b_iload_n (hE := fe_139_284) (hv := rfl) (k := ?_)
  refine mj_b_iconst (hE := fe_139_285) (k := ?_)
  refine mj_b_iadd (hE := fe_139_286) (k := ?_)
  refine mj_b_ialdN (hE := fe_139_287) (v := X (i + 4)) (c := i + 4) (hM := h0) (ht := Or.inl rfl) (hj := nI_add i 4) (hc := by omega) (hn := by omega) (hv := hx _) (k := ?_)
  refine d288 _ _ _ ?_
  refine mj_b_call (hE := fe_139_296) (hi := in_58) (h1 := g58 (X (i + 1)) (X (i + 2)) (bz (X (i + 3))) (bz (X (i + 4))) hr.2.1 hc) (hc := mj_cok_v rfl rfl h1) (ha := rfl) (hr := rfl) ?_
  rintro v' M1 ⟨sn', sx', pn', px', I1, R1, hM, hc1, fI1, fR1⟩
  cases hM
  have hm1 := hm.frC fI1
  have hmm1 := hmm.frC fR1
  have hX1 : ∀ j, I1 0 j = X j := fun j => by rw [fI1 _ _ (by omega)]; exact hX j
  clear hx
  have hx := hX1
  refine mj_b_rload_n (hE := fe_139_299) (hv := rfl) (k := ?_)
  refine mj_b_rload_n (hE := fe_139_300) (hv := rfl) (k := ?_)
  refine mj_b_iload_n (hE := fe_139_301) (hv := rfl) (k := ?_)
  refine mj_b_iconst (hE := fe_139_302) (k := ?_)
  refine mj_b_iadd (hE := fe_139_303) (k := ?_)
  refine mj_b_ialdN (hE := fe_139_304) (v := X (i + 1)) (c := i + 1) (hM := h0) (ht := Or.inl rfl) (hj := nI_add i 1) (hc := by omega) (hn := by omega) (hv := hx _) (k := ?_)
  refine mj_b_rload_n (hE := fe_139_305) (hv := rfl) (k := ?_)
  refine mj_b_iload_n (hE := fe_139_306) (hv := rfl) (k := ?_)
  refine mj_b_iconst (hE := fe_139_307) (k := ?_)
  refine mj_b_iadd (hE := fe_139_308) (k := ?_)
  refine mj_b_ialdN (hE := fe_139_309) (v := X (i + 2)) (c := i + 2) (hM := h0) (ht := Or.inl rfl) (hj := nI_add i 2) (hc := by omega) (hn := by omega) (hv := hx _) (k := ?_)
  refine mj_b_rload_n (hE := fe_139_310) (hv := rfl) (k := ?_)
  refine mj_b_iload_n (hE := fe_139_311) (hv := rfl) (k := ?_)
  refine mj_b_iconst (hE := fe_139_312) (k := ?_)
  refine mj_b_iadd (hE := fe_139_313) (k := ?_)
  refine mj_b_ialdN (hE := fe_139_314) (v := X (i + 3)) (c := i + 3) (hM := h0) (ht := Or.inl rfl) (hj := nI_add i 3) (hc := by omega) (hn := by omega) (hv := hx _) (k := ?_)
  refine d315 _ _ _ ?_
  refine mj_b_rload_n (hE := fe_139_323) (hv := rfl) (k := ?_)
  refine mj_b_iload_n (hE := fe_139_324) (hv := rfl) (k := ?_)
  refine mj_b_iconst (hE := fe_139_325) (k := ?_)
  refine mj_b_iadd (hE := fe_139_326) (k := ?_)
  refine mj_b_ialdN (hE := fe_139_327) (v := X (i + 4)) (c := i + 4) (hM := h0) (ht := Or.inl rfl) (hj := nI_add i 4) (hc := by omega) (hn := by omega) (hv := hx _) (k := ?_)
  refine d328 _ _ _ ?_
  refine mj_b_call (hE := fe_139_336) (hi := in_118) (h1 := g118 (X (i + 1)) (X (i + 2)) (bz (X (i + 3))) (bz (X (i + 4))) hmm1 hm1 hr) (hc := mj_cok_v rfl rfl h87) (ha := rfl) (hr := rfl) ?_
  rintro v' M2 ⟨I2, rs2, hM, fM, hall, hp⟩
  cases hM
  refine mj_b_if2 (hE := fe_139_339) (kt := fun g => ?_) (kf := fun g => absurd rfl (of_decide_eq_false g))
  exact hk I2 R1 (lw_mk hc1 fM hall hp hmm1 (wf_o_cop hr.2.1 _ _ _ _) hX1)
set_option maxHeartbeats 4000000 in
theorem lc_6 (h : lw_in n X I R) (hn : n < 1000) (hL : L ≤ 2560) (hi : i + 5 ≤ L) (hk : ∀ I' R', lw_in (n + 1) X I' R' → mj_T pj_P 139 838 [.ref 0, .ref 1, .ref 87, .int (nI i)] [] (mz_SH L, I', R') Q) : mj_T pj_P 139 344 [.ref 0, .ref 1, .ref 87, .int (nI i)] [] (mz_SH L, I, R) Q := by
  obtain ⟨sn, sx, pn, px, S, H, f, w, ms, rs, hs, hc, hm, hmm, hr, hX⟩ := h
  have h0 : (mz_SH L)[0]? = some (64, L) := rfl
  have h1 := sh_1 L
  have h87 := sm_87 L
  have hx := hX
  have d360 : ∀ (v : Int32) (st : List Value) (M : mj_H), mj_T pj_P 139 368 [.ref 0, .ref 1, .ref 87, .int (nI i)] (.int (pz (bz v)) :: st) M Q → mj_T pj_P 139 360 [.ref 0, .ref 1, .ref 87, .int (nI i)] (.int v :: st) M Q := by
    intro v st M hQ
    refine mj_b_if1 (hE := fe_139_360) (kt := fun g => ?_) (kf := fun g => ?_)
    · simp only [mj_cnd, decide_eq_true_eq] at g
      refine mj_b_iconst (hE := fe_139_367) (k := ?_)
      have e : bz v = false := by simp [bz, g]
      rw [e] at hQ
      exact hQ
    · simp only [mj_cnd, decide_eq_false_iff_not] at g
      refine mj_b_iconst (hE := fe_139_363) (k := ?_)
      refine mj_b_goto (hE := fe_139_364) (k := ?_)
      have e : bz v = true := by simp [bz, g]
      rw [e] at hQ
      exact hQ
  have d387 : ∀ (v : Int32) (st : List Value) (M : mj_H), mj_T pj_P 139 395 [.ref 0, .ref 1, .ref 87, .int (nI i)] (.int (pz (bz v)) :: st) M Q → mj_T pj_P 139 387 [.ref 0, .ref 1, .ref 87, .int (nI i)] (.int v :: st) M Q := by
    intro v st M hQ
    refine mj_b_if1 (hE := fe_139_387) (kt := fun g => ?_) (kf := fun g => ?_)
    · simp only [mj_cnd, decide_eq_true_eq] at g
      refine mj_b_iconst (hE := fe_139_394) (k := ?_)
      have e : bz v = false := by simp [bz, g]
      rw [e] at hQ
      exact hQ
    · simp only [mj_cnd, decide_eq_false_iff_not] at g
      refine mj_b_iconst (hE := fe_139_390) (k := ?_)
      refine mj_b_goto (hE := fe_139_391) (k := ?_)
      have e : bz v = true := by simp [bz, g]
      rw [e] at hQ
      exact hQ
  refine mj_b_rload_n (hE := fe_139_344) (hv := rfl) (k := ?_)
  refine mj_b_rload_n (hE := fe_139_345) (hv := rfl) (k := ?_)
  refine mj_b_iload_n (hE := fe_139_346) (hv := rfl) (k := ?_)
  refine mj_b_iconst (hE := fe_139_347) (k := ?_)
  refine mj_b_iadd (hE := fe_139_348) (k := ?_)
  refine mj_b_ialdN (hE := fe_139_349) (v := X (i + 1)) (c := i + 1) (hM := h0) (ht := Or.inl rfl) (hj := nI_add i 1) (hc := by omega) (hn := by omega) (hv := hx _) (k := ?_)
  refine mj_b_rload_n (hE := fe_139_350) (hv := rfl) (k := ?_)
  refine mj_b_iload_n (hE := fe_139_351) (hv := rfl) (k := ?_)
  refine mj_b_iconst (hE := fe_139_352) (k := ?_)
  refine mj_b_iadd (hE := fe_139_353) (k := ?_)
  refine mj_b_ialdN (hE := fe_139_354) (v := X (i + 2)) (c := i + 2) (hM := h0) (ht := Or.inl rfl) (hj := nI_add i 2) (hc := by omega) (hn := by omega) (hv := hx _) (k := ?_)
  refine mj_b_rload_n (hE := fe_139_355) (hv := rfl) (k := ?_)
  refine mj_b_iload_n (hE := fe_139_356) (hv := rfl) (k := ?_)
  refine mj_b_iconst (hE := fe_139_357) (k := ?_)
  refine mj_b_iadd (hE := fe_139_358) (k := ?_)
  refine mj_b_ialdN (hE := fe_139_359) (v := X (i + 3)) (c := i + 3) (hM := h0) (ht := Or.inl rfl) (hj := nI_add i 3) (hc := by omega) (hn := by omega) (hv := hx _) (k := ?_)
  refine d360 _ _ _ ?_
  refine mj_b_call (hE := fe_139_368) (hi := in_67) (h1 := g67 (X (i + 1)) (X (i + 2)) (bz (X (i + 3))) hr.2.1 hc) (hc := mj_cok_v rfl rfl h1) (ha := rfl) (hr := rfl) ?_
  rintro v' M1 ⟨sn', sx', pn', px', I1, R1, hM, hc1, fI1, fR1⟩
  cases hM
  have hm1 := hm.frC fI1
  have hmm1 := hmm.frC fR1
  have hX1 : ∀ j, I1 0 j = X j := fun j => by rw [fI1 _ _ (by omega)]; exact hX j
  clear hx
  have hx := hX1
  refine mj_b_rload_n (hE := fe_139_371) (hv := rfl) (k := ?_)
  refine mj_b_rload_n (hE := fe_139_372) (hv := rfl) (k := ?_)
  refine mj_b_iload_n (hE := fe_139_373) (hv := rfl) (k := ?_)
  refine mj_b_iconst (hE := fe_139_374) (k := ?_)
  refine mj_b_iadd (hE := fe_139_375) (k := ?_)
  refine mj_b_ialdN (hE := fe_139_376) (v := X (i + 1)) (c := i + 1) (hM := h0) (ht := Or.inl rfl) (hj := nI_add i 1) (hc := by omega) (hn := by omega) (hv := hx _) (k := ?_)
  refine mj_b_rload_n (hE := fe_139_377) (hv := rfl) (k := ?_)
  refine mj_b_iload_n (hE := fe_139_378) (hv := rfl) (k := ?_)
  refine mj_b_iconst (hE := fe_139_379) (k := ?_)
  refine mj_b_iadd (hE := fe_139_380) (k := ?_)
  refine mj_b_ialdN (hE := fe_139_381) (v := X (i + 2)) (c := i + 2) (hM := h0) (ht := Or.inl rfl) (hj := nI_add i 2) (hc := by omega) (hn := by omega) (hv := hx _) (k := ?_)
  refine mj_b_rload_n (hE := fe_139_382) (hv := rfl) (k := ?_)
  refine mj_b_iload_n (hE := fe_139_383) (hv := rfl) (k := ?_)
  refine mj_b_iconst (hE := fe_139_384) (k := ?_)
  refine mj_b_iadd (hE := fe_139_385) (k := ?_)
  refine mj_b_ialdN (hE := fe_139_386) (v := X (i + 3)) (c := i + 3) (hM := h0) (ht := Or.inl rfl) (hj := nI_add i 3) (hc := by omega) (hn := by omega) (hv := hx _) (k := ?_)
  refine d387 _ _ _ ?_
  refine mj_b_call (hE := fe_139_395) (hi := in_124) (h1 := g124 (X (i + 1)) (X (i + 2)) (bz (X (i + 3))) hmm1 hm1 hr) (hc := mj_cok_v rfl rfl h87) (ha := rfl) (hr := rfl) ?_
  rintro v' M2 ⟨I2, rs2, hM, fM, hall, hp⟩
  cases hM
  refine mj_b_if2 (hE := fe_139_398) (kt := fun g => ?_) (kf := fun g => absurd rfl (of_decide_eq_false g))
  exact hk I2 R1 (lw_mk hc1 fM hall hp hmm1 (wf_o_mov hr.2.1 _ _ _) hX1)
set_option maxHeartbeats 4000000 in
theorem lc_7 (h : lw_in n X I R) (hn : n < 1000) (hL : L ≤ 2560) (hi : i + 5 ≤ L) (hk : ∀ I' R', lw_in (n + 1) X I' R' → mj_T pj_P 139 838 [.ref 0, .ref 1, .ref 87, .int (nI i)] [] (mz_SH L, I', R') Q) : mj_T pj_P 139 403 [.ref 0, .ref 1, .ref 87, .int (nI i)] [] (mz_SH L, I, R) Q := by
  obtain ⟨sn, sx, pn, px, S, H, f, w, ms, rs, hs, hc, hm, hmm, hr, hX⟩ := h
  have h0 : (mz_SH L)[0]? = some (64, L) := rfl
  have h1 := sh_1 L
  have h87 := sm_87 L
  have hx := hX
  refine mj_b_rload_n (hE := fe_139_403) (hv := rfl) (k := ?_)
  refine mj_b_rload_n (hE := fe_139_404) (hv := rfl) (k := ?_)
  refine mj_b_iload_n (hE := fe_139_405) (hv := rfl) (k := ?_)
  refine mj_b_iconst (hE := fe_139_406) (k := ?_)
  refine mj_b_iadd (hE := fe_139_407) (k := ?_)
  refine mj_b_ialdN (hE := fe_139_408) (v := X (i + 1)) (c := i + 1) (hM := h0) (ht := Or.inl rfl) (hj := nI_add i 1) (hc := by omega) (hn := by omega) (hv := hx _) (k := ?_)
  refine mj_b_rload_n (hE := fe_139_409) (hv := rfl) (k := ?_)
  refine mj_b_iload_n (hE := fe_139_410) (hv := rfl) (k := ?_)
  refine mj_b_iconst (hE := fe_139_411) (k := ?_)
  refine mj_b_iadd (hE := fe_139_412) (k := ?_)
  refine mj_b_ialdN (hE := fe_139_413) (v := X (i + 2)) (c := i + 2) (hM := h0) (ht := Or.inl rfl) (hj := nI_add i 2) (hc := by omega) (hn := by omega) (hv := hx _) (k := ?_)
  refine mj_b_rload_n (hE := fe_139_414) (hv := rfl) (k := ?_)
  refine mj_b_iload_n (hE := fe_139_415) (hv := rfl) (k := ?_)
  refine mj_b_iconst (hE := fe_139_416) (k := ?_)
  refine mj_b_iadd (hE := fe_139_417) (k := ?_)
  refine mj_b_ialdN (hE := fe_139_418) (v := X (i + 3)) (c := i + 3) (hM := h0) (ht := Or.inl rfl) (hj := nI_add i 3) (hc := by omega) (hn := by omega) (hv := hx _) (k := ?_)
  refine mj_b_call (hE := fe_139_419) (hi := in_69) (h1 := g69 (X (i + 1)) (X (i + 2)) (X (i + 3)) hr.2.1 hc) (hc := mj_cok_v rfl rfl h1) (ha := rfl) (hr := rfl) ?_
  rintro v' M1 ⟨sn', sx', pn', px', I1, R1, hM, hc1, fI1, fR1⟩
  cases hM
  have hm1 := hm.frC fI1
  have hmm1 := hmm.frC fR1
  have hX1 : ∀ j, I1 0 j = X j := fun j => by rw [fI1 _ _ (by omega)]; exact hX j
  clear hx
  have hx := hX1
  refine mj_b_rload_n (hE := fe_139_422) (hv := rfl) (k := ?_)
  refine mj_b_rload_n (hE := fe_139_423) (hv := rfl) (k := ?_)
  refine mj_b_iload_n (hE := fe_139_424) (hv := rfl) (k := ?_)
  refine mj_b_iconst (hE := fe_139_425) (k := ?_)
  refine mj_b_iadd (hE := fe_139_426) (k := ?_)
  refine mj_b_ialdN (hE := fe_139_427) (v := X (i + 1)) (c := i + 1) (hM := h0) (ht := Or.inl rfl) (hj := nI_add i 1) (hc := by omega) (hn := by omega) (hv := hx _) (k := ?_)
  refine mj_b_rload_n (hE := fe_139_428) (hv := rfl) (k := ?_)
  refine mj_b_iload_n (hE := fe_139_429) (hv := rfl) (k := ?_)
  refine mj_b_iconst (hE := fe_139_430) (k := ?_)
  refine mj_b_iadd (hE := fe_139_431) (k := ?_)
  refine mj_b_ialdN (hE := fe_139_432) (v := X (i + 2)) (c := i + 2) (hM := h0) (ht := Or.inl rfl) (hj := nI_add i 2) (hc := by omega) (hn := by omega) (hv := hx _) (k := ?_)
  refine mj_b_rload_n (hE := fe_139_433) (hv := rfl) (k := ?_)
  refine mj_b_iload_n (hE := fe_139_434) (hv := rfl) (k := ?_)
  refine mj_b_iconst (hE := fe_139_435) (k := ?_)
  refine mj_b_iadd (hE := fe_139_436) (k := ?_)
  refine mj_b_ialdN (hE := fe_139_437) (v := X (i + 3)) (c := i + 3) (hM := h0) (ht := Or.inl rfl) (hj := nI_add i 3) (hc := by omega) (hn := by omega) (hv := hx _) (k := ?_)
  refine mj_b_call (hE := fe_139_438) (hi := in_125) (h1 := g125 (X (i + 1)) (X (i + 2)) (X (i + 3)) hmm1 hm1 hr) (hc := mj_cok_v rfl rfl h87) (ha := rfl) (hr := rfl) ?_
  rintro v' M2 ⟨I2, rs2, hM, fM, hall, hp⟩
  cases hM
  refine mj_b_if2 (hE := fe_139_441) (kt := fun g => ?_) (kf := fun g => absurd rfl (of_decide_eq_false g))
  exact hk I2 R1 (lw_mk hc1 fM hall hp hmm1 (wf_o_pat hr.2.1 _ _ _) hX1)
set_option maxHeartbeats 4000000 in
theorem lc_8 (h : lw_in n X I R) (hn : n < 1000) (hL : L ≤ 2560) (hi : i + 5 ≤ L) (hk : ∀ I' R', lw_in (n + 1) X I' R' → mj_T pj_P 139 838 [.ref 0, .ref 1, .ref 87, .int (nI i)] [] (mz_SH L, I', R') Q) : mj_T pj_P 139 446 [.ref 0, .ref 1, .ref 87, .int (nI i)] [] (mz_SH L, I, R) Q := by
  obtain ⟨sn, sx, pn, px, S, H, f, w, ms, rs, hs, hc, hm, hmm, hr, hX⟩ := h
  have h0 : (mz_SH L)[0]? = some (64, L) := rfl
  have h1 := sh_1 L
  have h87 := sm_87 L
  have hx := hX
  have d457 : ∀ (v : Int32) (st : List Value) (M : mj_H), mj_T pj_P 139 465 [.ref 0, .ref 1, .ref 87, .int (nI i)] (.int (pz (bz v)) :: st) M Q → mj_T pj_P 139 457 [.ref 0, .ref 1, .ref 87, .int (nI i)] (.int v :: st) M Q := by
    intro v st M hQ
    refine mj_b_if1 (hE := fe_139_457) (kt := fun g => ?_) (kf := fun g => ?_)
    · simp only [mj_cnd, decide_eq_true_eq] at g
      refine mj_b_iconst (hE := fe_139_464) (k := ?_)
      have e : bz v = false := by simp [bz, g]
      rw [e] at hQ
      exact hQ
    · simp only [mj_cnd, decide_eq_false_iff_not] at g
      refine mj_b_iconst (hE := fe_139_460) (k := ?_)
      refine mj_b_goto (hE := fe_139_461) (k := ?_)
      have e : bz v = true := by simp [bz, g]
      rw [e] at hQ
      exact hQ
  have d470 : ∀ (v : Int32) (st : List Value) (M : mj_H), mj_T pj_P 139 478 [.ref 0, .ref 1, .ref 87, .int (nI i)] (.int (pz (bz v)) :: st) M Q → mj_T pj_P 139 470 [.ref 0, .ref 1, .ref 87, .int (nI i)] (.int v :: st) M Q := by
    intro v st M hQ
    refine mj_b_if1 (hE := fe_139_470) (kt := fun g => ?_) (kf := fun g => ?_)
    · simp only [mj_cnd, decide_eq_true_eq] at g
      refine mj_b_iconst (hE := fe_139_477) (k := ?_)
      have e : bz v = false := by simp [bz, g]
      rw [e] at hQ
      exact hQ
    · simp only [mj_cnd, decide_eq_false_iff_not] at g
      refine mj_b_iconst (hE := fe_139_473) (k := ?_)
      refine mj_b_goto (hE := fe_139_474) (k := ?_)
      have e : bz v = true := by simp [bz, g]
      rw [e] at hQ
      exact hQ
  have d497 : ∀ (v : Int32) (st : List Value) (M : mj_H), mj_T pj_P 139 505 [.ref 0, .ref 1, .ref 87, .int (nI i)] (.int (pz (bz v)) :: st) M Q → mj_T pj_P 139 497 [.ref 0, .ref 1, .ref 87, .int (nI i)] (.int v :: st) M Q := by
    intro v st M hQ
    refine mj_b_if1 (hE := fe_139_497) (kt := fun g => ?_) (kf := fun g => ?_)
    · simp only [mj_cnd, decide_eq_true_eq] at g
      refine mj_b_iconst (hE := fe_139_504) (k := ?_)
      have e : bz v = false := by simp [bz, g]
      rw [e] at hQ
      exact hQ
    · simp only [mj_cnd, decide_eq_false_iff_not] at g
      refine mj_b_iconst (hE := fe_139_500) (k := ?_)
      refine mj_b_goto (hE := fe_139_501) (k := ?_)
      have e : bz v = true := by simp [bz, g]
      rw [e] at hQ
      exact hQ
  have d510 : ∀ (v : Int32) (st : List Value) (M : mj_H), mj_T pj_P 139 518 [.ref 0, .ref 1, .ref 87, .int (nI i)] (.int (pz (bz v)) :: st) M Q → mj_T pj_P 139 510 [.ref 0, .ref 1, .ref 87, .int (nI i)] (.int v :: st) M Q := by
    intro v st M hQ
    refine mj_b_if1 (hE := fe_139_510) (kt := fun g => ?_) (kf := fun g => ?_)
    · simp only [mj_cnd, decide_eq_true_eq] at g
      refine mj_b_iconst (hE := fe_139_517) (k := ?_)
      have e : bz v = false := by simp [bz, g]
      rw [e] at hQ
      exact hQ
    · simp only [mj_cnd, decide_eq_false_iff_not] at g
      refine mj_b_iconst (hE := fe_139_513) (k := ?_)
      refine mj_b_goto (hE := fe_139_514) (k := ?_)
      have e : bz v = true := by simp [bz, g]
      rw [e] at hQ
      exact hQ
  refine mj_b_rload_n (hE := fe_139_446) (hv := rfl) (k := ?_)
  refine mj_b_rload_n (hE := fe_139_447) (hv := rfl) (k := ?_)
  refine mj_b_iload_n (hE := fe_139_448) (hv := rfl) (k := ?_)
  refine mj_b_iconst (hE := fe_139_449) (k := ?_)
  refine mj_b_iadd (hE := fe_139_450) (k := ?_)
  refine mj_b_ialdN (hE := fe_139_451) (v := X (i + 1)) (c := i + 1) (hM := h0) (ht := Or.inl rfl) (hj := nI_add i 1) (hc := by omega) (hn := by omega) (hv := hx _) (k := ?_)
  refine mj_b_rload_n (hE := fe_139_452) (hv := rfl) (k := ?_)
  refine mj_b_iload_n (hE := fe_139_453) (hv := rfl) (k := ?_)
  refine mj_b_iconst (hE := fe_139_454) (k := ?_)
  refine mj_b_iadd (hE := fe_139_455) (k := ?_)
  refine mj_b_ialdN (hE := fe_139_456) (v := X (i + 2)) (c := i + 2) (hM := h0) (ht := Or.inl rfl) (hj := nI_add i 2) (hc := by omega) (hn := by omega) (hv := hx _) (k := ?_)
  refine d457 _ _ _ ?_
  refine mj_b_rload_n (hE := fe_139_465) (hv := rfl) (k := ?_)
  refine mj_b_iload_n (hE := fe_139_466) (hv := rfl) (k := ?_)
  refine mj_b_iconst (hE := fe_139_467) (k := ?_)
  refine mj_b_iadd (hE := fe_139_468) (k := ?_)
  refine mj_b_ialdN (hE := fe_139_469) (v := X (i + 3)) (c := i + 3) (hM := h0) (ht := Or.inl rfl) (hj := nI_add i 3) (hc := by omega) (hn := by omega) (hv := hx _) (k := ?_)
  refine d470 _ _ _ ?_
  refine mj_b_rload_n (hE := fe_139_478) (hv := rfl) (k := ?_)
  refine mj_b_iload_n (hE := fe_139_479) (hv := rfl) (k := ?_)
  refine mj_b_iconst (hE := fe_139_480) (k := ?_)
  refine mj_b_iadd (hE := fe_139_481) (k := ?_)
  refine mj_b_ialdN (hE := fe_139_482) (v := X (i + 4)) (c := i + 4) (hM := h0) (ht := Or.inl rfl) (hj := nI_add i 4) (hc := by omega) (hn := by omega) (hv := hx _) (k := ?_)
  refine mj_b_call (hE := fe_139_483) (hi := in_72) (h1 := g72 (X (i + 1)) (bz (X (i + 2))) (bz (X (i + 3))) (X (i + 4)) hr.2.1 hc) (hc := mj_cok_v rfl rfl h1) (ha := rfl) (hr := rfl) ?_
  rintro v' M1 ⟨sn', sx', pn', px', I1, R1, hM, hc1, fI1, fR1⟩
  cases hM
  have hm1 := hm.frC fI1
  have hmm1 := hmm.frC fR1
  have hX1 : ∀ j, I1 0 j = X j := fun j => by rw [fI1 _ _ (by omega)]; exact hX j
  clear hx
  have hx := hX1
  refine mj_b_rload_n (hE := fe_139_486) (hv := rfl) (k := ?_)
  refine mj_b_rload_n (hE := fe_139_487) (hv := rfl) (k := ?_)
  refine mj_b_iload_n (hE := fe_139_488) (hv := rfl) (k := ?_)
  refine mj_b_iconst (hE := fe_139_489) (k := ?_)
  refine mj_b_iadd (hE := fe_139_490) (k := ?_)
  refine mj_b_ialdN (hE := fe_139_491) (v := X (i + 1)) (c := i + 1) (hM := h0) (ht := Or.inl rfl) (hj := nI_add i 1) (hc := by omega) (hn := by omega) (hv := hx _) (k := ?_)
  refine mj_b_rload_n (hE := fe_139_492) (hv := rfl) (k := ?_)
  refine mj_b_iload_n (hE := fe_139_493) (hv := rfl) (k := ?_)
  refine mj_b_iconst (hE := fe_139_494) (k := ?_)
  refine mj_b_iadd (hE := fe_139_495) (k := ?_)
  refine mj_b_ialdN (hE := fe_139_496) (v := X (i + 2)) (c := i + 2) (hM := h0) (ht := Or.inl rfl) (hj := nI_add i 2) (hc := by omega) (hn := by omega) (hv := hx _) (k := ?_)
  refine d497 _ _ _ ?_
  refine mj_b_rload_n (hE := fe_139_505) (hv := rfl) (k := ?_)
  refine mj_b_iload_n (hE := fe_139_506) (hv := rfl) (k := ?_)
  refine mj_b_iconst (hE := fe_139_507) (k := ?_)
  refine mj_b_iadd (hE := fe_139_508) (k := ?_)
  refine mj_b_ialdN (hE := fe_139_509) (v := X (i + 3)) (c := i + 3) (hM := h0) (ht := Or.inl rfl) (hj := nI_add i 3) (hc := by omega) (hn := by omega) (hv := hx _) (k := ?_)
  refine d510 _ _ _ ?_
  refine mj_b_rload_n (hE := fe_139_518) (hv := rfl) (k := ?_)
  refine mj_b_iload_n (hE := fe_139_519) (hv := rfl) (k := ?_)
  refine mj_b_iconst (hE := fe_139_520) (k := ?_)
  refine mj_b_iadd (hE := fe_139_521) (k := ?_)
  refine mj_b_ialdN (hE := fe_139_522) (v := X (i + 4)) (c := i + 4) (hM := h0) (ht := Or.inl rfl) (hj := nI_add i 4) (hc := by omega) (hn := by omega) (hv := hx _) (k := ?_)
  refine mj_b_call (hE := fe_139_523) (hi := in_126) (h1 := g126 (X (i + 1)) (bz (X (i + 2))) (bz (X (i + 3))) (X (i + 4)) hn hmm1 hm1 hr) (hc := mj_cok_v rfl rfl h87) (ha := rfl) (hr := rfl) ?_
  rintro v' M2 ⟨I2, rs2, hM, fM, hall, hp⟩
  cases hM
  refine mj_b_if2 (hE := fe_139_526) (kt := fun g => ?_) (kf := fun g => absurd rfl (of_decide_eq_false g))
  exact hk I2 R1 (lw_mk hc1 fM hall hp hmm1 (wf_o_lck hr.2.1 hn _ _ _ _) hX1)
set_option maxHeartbeats 4000000 in
theorem lc_9 (h : lw_in n X I R) (hn : n < 1000) (hL : L ≤ 2560) (hi : i + 5 ≤ L) (hk : ∀ I' R', lw_in (n + 1) X I' R' → mj_T pj_P 139 838 [.ref 0, .ref 1, .ref 87, .int (nI i)] [] (mz_SH L, I', R') Q) : mj_T pj_P 139 531 [.ref 0, .ref 1, .ref 87, .int (nI i)] [] (mz_SH L, I, R) Q := by
  obtain ⟨sn, sx, pn, px, S, H, f, w, ms, rs, hs, hc, hm, hmm, hr, hX⟩ := h
  have h0 : (mz_SH L)[0]? = some (64, L) := rfl
  have h1 := sh_1 L
  have h87 := sm_87 L
  have hx := hX
  refine mj_b_rload_n (hE := fe_139_531) (hv := rfl) (k := ?_)
  refine mj_b_rload_n (hE := fe_139_532) (hv := rfl) (k := ?_)
  refine mj_b_iload_n (hE := fe_139_533) (hv := rfl) (k := ?_)
  refine mj_b_iconst (hE := fe_139_534) (k := ?_)
  refine mj_b_iadd (hE := fe_139_535) (k := ?_)
  refine mj_b_ialdN (hE := fe_139_536) (v := X (i + 1)) (c := i + 1) (hM := h0) (ht := Or.inl rfl) (hj := nI_add i 1) (hc := by omega) (hn := by omega) (hv := hx _) (k := ?_)
  refine mj_b_rload_n (hE := fe_139_537) (hv := rfl) (k := ?_)
  refine mj_b_iload_n (hE := fe_139_538) (hv := rfl) (k := ?_)
  refine mj_b_iconst (hE := fe_139_539) (k := ?_)
  refine mj_b_iadd (hE := fe_139_540) (k := ?_)
  refine mj_b_ialdN (hE := fe_139_541) (v := X (i + 2)) (c := i + 2) (hM := h0) (ht := Or.inl rfl) (hj := nI_add i 2) (hc := by omega) (hn := by omega) (hv := hx _) (k := ?_)
  refine mj_b_call (hE := fe_139_542) (hi := in_76) (h1 := g76 (X (i + 1)) (X (i + 2)) hc) (hc := mj_cok_v rfl rfl h1) (ha := rfl) (hr := rfl) ?_
  rintro v' M1 ⟨sn', sx', pn', px', I1, R1, hM, hc1, fI1, fR1⟩
  cases hM
  have hm1 := hm.frC fI1
  have hmm1 := hmm.frC fR1
  have hX1 : ∀ j, I1 0 j = X j := fun j => by rw [fI1 _ _ (by omega)]; exact hX j
  clear hx
  have hx := hX1
  refine mj_b_rload_n (hE := fe_139_545) (hv := rfl) (k := ?_)
  refine mj_b_rload_n (hE := fe_139_546) (hv := rfl) (k := ?_)
  refine mj_b_iload_n (hE := fe_139_547) (hv := rfl) (k := ?_)
  refine mj_b_iconst (hE := fe_139_548) (k := ?_)
  refine mj_b_iadd (hE := fe_139_549) (k := ?_)
  refine mj_b_ialdN (hE := fe_139_550) (v := X (i + 1)) (c := i + 1) (hM := h0) (ht := Or.inl rfl) (hj := nI_add i 1) (hc := by omega) (hn := by omega) (hv := hx _) (k := ?_)
  refine mj_b_rload_n (hE := fe_139_551) (hv := rfl) (k := ?_)
  refine mj_b_iload_n (hE := fe_139_552) (hv := rfl) (k := ?_)
  refine mj_b_iconst (hE := fe_139_553) (k := ?_)
  refine mj_b_iadd (hE := fe_139_554) (k := ?_)
  refine mj_b_ialdN (hE := fe_139_555) (v := X (i + 2)) (c := i + 2) (hM := h0) (ht := Or.inl rfl) (hj := nI_add i 2) (hc := by omega) (hn := by omega) (hv := hx _) (k := ?_)
  refine mj_b_call (hE := fe_139_556) (hi := in_127) (h1 := g127 (X (i + 1)) (X (i + 2)) hn hmm1 hm1 hr) (hc := mj_cok_v rfl rfl h87) (ha := rfl) (hr := rfl) ?_
  rintro v' M2 ⟨I2, rs2, hM, fM, hall, hp⟩
  cases hM
  refine mj_b_if2 (hE := fe_139_559) (kt := fun g => ?_) (kf := fun g => absurd rfl (of_decide_eq_false g))
  exact hk I2 R1 (lw_mk hc1 fM hall hp hmm1 (wf_o_rfr hr.2.1 _ _) hX1)
set_option maxHeartbeats 4000000 in
theorem lc_10 (h : lw_in n X I R) (hn : n < 1000) (hL : L ≤ 2560) (hi : i + 5 ≤ L) (hk : ∀ I' R', lw_in (n + 1) X I' R' → mj_T pj_P 139 838 [.ref 0, .ref 1, .ref 87, .int (nI i)] [] (mz_SH L, I', R') Q) : mj_T pj_P 139 564 [.ref 0, .ref 1, .ref 87, .int (nI i)] [] (mz_SH L, I, R) Q := by
  obtain ⟨sn, sx, pn, px, S, H, f, w, ms, rs, hs, hc, hm, hmm, hr, hX⟩ := h
  have h0 : (mz_SH L)[0]? = some (64, L) := rfl
  have h1 := sh_1 L
  have h87 := sm_87 L
  have hx := hX
  refine mj_b_rload_n (hE := fe_139_564) (hv := rfl) (k := ?_)
  refine mj_b_rload_n (hE := fe_139_565) (hv := rfl) (k := ?_)
  refine mj_b_iload_n (hE := fe_139_566) (hv := rfl) (k := ?_)
  refine mj_b_iconst (hE := fe_139_567) (k := ?_)
  refine mj_b_iadd (hE := fe_139_568) (k := ?_)
  refine mj_b_ialdN (hE := fe_139_569) (v := X (i + 1)) (c := i + 1) (hM := h0) (ht := Or.inl rfl) (hj := nI_add i 1) (hc := by omega) (hn := by omega) (hv := hx _) (k := ?_)
  refine mj_b_rload_n (hE := fe_139_570) (hv := rfl) (k := ?_)
  refine mj_b_iload_n (hE := fe_139_571) (hv := rfl) (k := ?_)
  refine mj_b_iconst (hE := fe_139_572) (k := ?_)
  refine mj_b_iadd (hE := fe_139_573) (k := ?_)
  refine mj_b_ialdN (hE := fe_139_574) (v := X (i + 2)) (c := i + 2) (hM := h0) (ht := Or.inl rfl) (hj := nI_add i 2) (hc := by omega) (hn := by omega) (hv := hx _) (k := ?_)
  refine mj_b_call (hE := fe_139_575) (hi := in_77) (h1 := g77 (X (i + 1)) (X (i + 2)) hc) (hc := mj_cok_v rfl rfl h1) (ha := rfl) (hr := rfl) ?_
  rintro v' M1 ⟨sn', sx', pn', px', I1, R1, hM, hc1, fI1, fR1⟩
  cases hM
  have hm1 := hm.frC fI1
  have hmm1 := hmm.frC fR1
  have hX1 : ∀ j, I1 0 j = X j := fun j => by rw [fI1 _ _ (by omega)]; exact hX j
  clear hx
  have hx := hX1
  refine mj_b_rload_n (hE := fe_139_578) (hv := rfl) (k := ?_)
  refine mj_b_rload_n (hE := fe_139_579) (hv := rfl) (k := ?_)
  refine mj_b_iload_n (hE := fe_139_580) (hv := rfl) (k := ?_)
  refine mj_b_iconst (hE := fe_139_581) (k := ?_)
  refine mj_b_iadd (hE := fe_139_582) (k := ?_)
  refine mj_b_ialdN (hE := fe_139_583) (v := X (i + 1)) (c := i + 1) (hM := h0) (ht := Or.inl rfl) (hj := nI_add i 1) (hc := by omega) (hn := by omega) (hv := hx _) (k := ?_)
  refine mj_b_rload_n (hE := fe_139_584) (hv := rfl) (k := ?_)
  refine mj_b_iload_n (hE := fe_139_585) (hv := rfl) (k := ?_)
  refine mj_b_iconst (hE := fe_139_586) (k := ?_)
  refine mj_b_iadd (hE := fe_139_587) (k := ?_)
  refine mj_b_ialdN (hE := fe_139_588) (v := X (i + 2)) (c := i + 2) (hM := h0) (ht := Or.inl rfl) (hj := nI_add i 2) (hc := by omega) (hn := by omega) (hv := hx _) (k := ?_)
  refine mj_b_call (hE := fe_139_589) (hi := in_128) (h1 := g128 (X (i + 1)) (X (i + 2)) hmm1 hm1 hr) (hc := mj_cok_v rfl rfl h87) (ha := rfl) (hr := rfl) ?_
  rintro v' M2 ⟨I2, rs2, hM, fM, hall, hp⟩
  cases hM
  refine mj_b_if2 (hE := fe_139_592) (kt := fun g => ?_) (kf := fun g => absurd rfl (of_decide_eq_false g))
  exact hk I2 R1 (lw_mk hc1 fM hall hp hmm1 (wf_o_unl hr.2.1 _ _) hX1)
set_option maxHeartbeats 4000000 in
theorem lc_11 (h : lw_in n X I R) (hn : n < 1000) (hL : L ≤ 2560) (hi : i + 5 ≤ L) (hk : ∀ I' R', lw_in (n + 1) X I' R' → mj_T pj_P 139 838 [.ref 0, .ref 1, .ref 87, .int (nI i)] [] (mz_SH L, I', R') Q) : mj_T pj_P 139 597 [.ref 0, .ref 1, .ref 87, .int (nI i)] [] (mz_SH L, I, R) Q := by
  obtain ⟨sn, sx, pn, px, S, H, f, w, ms, rs, hs, hc, hm, hmm, hr, hX⟩ := h
  have h0 : (mz_SH L)[0]? = some (64, L) := rfl
  have h1 := sh_1 L
  have h87 := sm_87 L
  have hx := hX
  refine mj_b_rload_n (hE := fe_139_597) (hv := rfl) (k := ?_)
  refine mj_b_rload_n (hE := fe_139_598) (hv := rfl) (k := ?_)
  refine mj_b_iload_n (hE := fe_139_599) (hv := rfl) (k := ?_)
  refine mj_b_iconst (hE := fe_139_600) (k := ?_)
  refine mj_b_iadd (hE := fe_139_601) (k := ?_)
  refine mj_b_ialdN (hE := fe_139_602) (v := X (i + 1)) (c := i + 1) (hM := h0) (ht := Or.inl rfl) (hj := nI_add i 1) (hc := by omega) (hn := by omega) (hv := hx _) (k := ?_)
  refine mj_b_call (hE := fe_139_603) (hi := in_78) (h1 := g78 (X (i + 1)) hc) (hc := mj_cok_v rfl rfl h1) (ha := rfl) (hr := rfl) ?_
  rintro v' M1 ⟨sn', sx', pn', px', I1, R1, hM, hc1, fI1, fR1⟩
  cases hM
  have hm1 := hm.frC fI1
  have hmm1 := hmm.frC fR1
  have hX1 : ∀ j, I1 0 j = X j := fun j => by rw [fI1 _ _ (by omega)]; exact hX j
  clear hx
  have hx := hX1
  refine mj_b_rload_n (hE := fe_139_606) (hv := rfl) (k := ?_)
  refine mj_b_rload_n (hE := fe_139_607) (hv := rfl) (k := ?_)
  refine mj_b_iload_n (hE := fe_139_608) (hv := rfl) (k := ?_)
  refine mj_b_iconst (hE := fe_139_609) (k := ?_)
  refine mj_b_iadd (hE := fe_139_610) (k := ?_)
  refine mj_b_ialdN (hE := fe_139_611) (v := X (i + 1)) (c := i + 1) (hM := h0) (ht := Or.inl rfl) (hj := nI_add i 1) (hc := by omega) (hn := by omega) (hv := hx _) (k := ?_)
  refine mj_b_call (hE := fe_139_612) (hi := in_129) (h1 := g129 (X (i + 1)) hmm1 hm1 hr) (hc := mj_cok_v rfl rfl h87) (ha := rfl) (hr := rfl) ?_
  rintro v' M2 ⟨I2, rs2, hM, fM, hall, hp⟩
  cases hM
  refine mj_b_if2 (hE := fe_139_615) (kt := fun g => ?_) (kf := fun g => absurd rfl (of_decide_eq_false g))
  exact hk I2 R1 (lw_mk hc1 fM hall hp hmm1 (wf_o_tik hr.2.1 _) hX1)
set_option maxHeartbeats 4000000 in
theorem lc_12 (h : lw_in n X I R) (hn : n < 1000) (hL : L ≤ 2560) (hi : i + 5 ≤ L) (hk : ∀ I' R', lw_in (n + 1) X I' R' → mj_T pj_P 139 838 [.ref 0, .ref 1, .ref 87, .int (nI i)] [] (mz_SH L, I', R') Q) : mj_T pj_P 139 620 [.ref 0, .ref 1, .ref 87, .int (nI i)] [] (mz_SH L, I, R) Q := by
  obtain ⟨sn, sx, pn, px, S, H, f, w, ms, rs, hs, hc, hm, hmm, hr, hX⟩ := h
  have h0 : (mz_SH L)[0]? = some (64, L) := rfl
  have h1 := sh_1 L
  have h87 := sm_87 L
  have hx := hX
  refine mj_b_rload_n (hE := fe_139_620) (hv := rfl) (k := ?_)
  refine mj_b_rload_n (hE := fe_139_621) (hv := rfl) (k := ?_)
  refine mj_b_iload_n (hE := fe_139_622) (hv := rfl) (k := ?_)
  refine mj_b_iconst (hE := fe_139_623) (k := ?_)
  refine mj_b_iadd (hE := fe_139_624) (k := ?_)
  refine mj_b_ialdN (hE := fe_139_625) (v := X (i + 1)) (c := i + 1) (hM := h0) (ht := Or.inl rfl) (hj := nI_add i 1) (hc := by omega) (hn := by omega) (hv := hx _) (k := ?_)
  refine mj_b_callR (hE := fe_139_626) (hi := in_79) (h1 := g79 (X (i + 1)) hc.2.2.1.st hc.1) (hc := mj_cok_v rfl rfl h1) (ha := rfl) (hr := rfl) ?_
  refine mj_b_rload_n (hE := fe_139_629) (hv := rfl) (k := ?_)
  refine mj_b_rload_n (hE := fe_139_630) (hv := rfl) (k := ?_)
  refine mj_b_iload_n (hE := fe_139_631) (hv := rfl) (k := ?_)
  refine mj_b_iconst (hE := fe_139_632) (k := ?_)
  refine mj_b_iadd (hE := fe_139_633) (k := ?_)
  refine mj_b_ialdN (hE := fe_139_634) (v := X (i + 1)) (c := i + 1) (hM := h0) (ht := Or.inl rfl) (hj := nI_add i 1) (hc := by omega) (hn := by omega) (hv := hx _) (k := ?_)
  refine mj_b_callR (hE := fe_139_635) (hi := in_130) (h1 := g130 (X (i + 1)) hmm hm.1.2.1.1 hm.1.2.1.2 hm.1.fo) (hc := mj_cok_v rfl rfl h87) (ha := rfl) (hr := rfl) ?_
  refine mj_b_if2 (hE := fe_139_638) (kt := fun g => ?_) (kf := fun g => absurd (Eq.symm (q_kind hc hm hr _)) (of_decide_eq_false g))
  exact hk I R (lw_in.mono ⟨sn, sx, pn, px, S, H, f, w, ms, rs, hs, hc, hm, hmm, hr, hX⟩ (by omega))
set_option maxHeartbeats 4000000 in
theorem lc_13 (h : lw_in n X I R) (hn : n < 1000) (hL : L ≤ 2560) (hi : i + 5 ≤ L) (hk : ∀ I' R', lw_in (n + 1) X I' R' → mj_T pj_P 139 838 [.ref 0, .ref 1, .ref 87, .int (nI i)] [] (mz_SH L, I', R') Q) : mj_T pj_P 139 643 [.ref 0, .ref 1, .ref 87, .int (nI i)] [] (mz_SH L, I, R) Q := by
  obtain ⟨sn, sx, pn, px, S, H, f, w, ms, rs, hs, hc, hm, hmm, hr, hX⟩ := h
  have h0 : (mz_SH L)[0]? = some (64, L) := rfl
  have h1 := sh_1 L
  have h87 := sm_87 L
  have hx := hX
  refine mj_b_rload_n (hE := fe_139_643) (hv := rfl) (k := ?_)
  refine mj_b_rload_n (hE := fe_139_644) (hv := rfl) (k := ?_)
  refine mj_b_iload_n (hE := fe_139_645) (hv := rfl) (k := ?_)
  refine mj_b_iconst (hE := fe_139_646) (k := ?_)
  refine mj_b_iadd (hE := fe_139_647) (k := ?_)
  refine mj_b_ialdN (hE := fe_139_648) (v := X (i + 1)) (c := i + 1) (hM := h0) (ht := Or.inl rfl) (hj := nI_add i 1) (hc := by omega) (hn := by omega) (hv := hx _) (k := ?_)
  refine mj_b_callR (hE := fe_139_649) (hi := in_80) (h1 := g80 (X (i + 1)) hc.2.2.1.st hc.1) (hc := mj_cok_v rfl rfl h1) (ha := rfl) (hr := rfl) ?_
  refine mj_b_rload_n (hE := fe_139_652) (hv := rfl) (k := ?_)
  refine mj_b_rload_n (hE := fe_139_653) (hv := rfl) (k := ?_)
  refine mj_b_iload_n (hE := fe_139_654) (hv := rfl) (k := ?_)
  refine mj_b_iconst (hE := fe_139_655) (k := ?_)
  refine mj_b_iadd (hE := fe_139_656) (k := ?_)
  refine mj_b_ialdN (hE := fe_139_657) (v := X (i + 1)) (c := i + 1) (hM := h0) (ht := Or.inl rfl) (hj := nI_add i 1) (hc := by omega) (hn := by omega) (hv := hx _) (k := ?_)
  refine mj_b_callR (hE := fe_139_658) (hi := in_131) (h1 := g131 (X (i + 1)) hmm hm.1.2.1.1 hm.1.2.1.2) (hc := mj_cok_v rfl rfl h87) (ha := rfl) (hr := rfl) ?_
  refine mj_b_if2 (hE := fe_139_661) (kt := fun g => ?_) (kf := fun g => absurd (Eq.symm (q_body hc hm hr _)) (of_decide_eq_false g))
  exact hk I R (lw_in.mono ⟨sn, sx, pn, px, S, H, f, w, ms, rs, hs, hc, hm, hmm, hr, hX⟩ (by omega))
set_option maxHeartbeats 4000000 in
theorem lc_14 (h : lw_in n X I R) (hn : n < 1000) (hL : L ≤ 2560) (hi : i + 5 ≤ L) (hk : ∀ I' R', lw_in (n + 1) X I' R' → mj_T pj_P 139 838 [.ref 0, .ref 1, .ref 87, .int (nI i)] [] (mz_SH L, I', R') Q) : mj_T pj_P 139 666 [.ref 0, .ref 1, .ref 87, .int (nI i)] [] (mz_SH L, I, R) Q := by
  obtain ⟨sn, sx, pn, px, S, H, f, w, ms, rs, hs, hc, hm, hmm, hr, hX⟩ := h
  have h0 : (mz_SH L)[0]? = some (64, L) := rfl
  have h1 := sh_1 L
  have h87 := sm_87 L
  have hx := hX
  refine mj_b_rload_n (hE := fe_139_666) (hv := rfl) (k := ?_)
  refine mj_b_rload_n (hE := fe_139_667) (hv := rfl) (k := ?_)
  refine mj_b_iload_n (hE := fe_139_668) (hv := rfl) (k := ?_)
  refine mj_b_iconst (hE := fe_139_669) (k := ?_)
  refine mj_b_iadd (hE := fe_139_670) (k := ?_)
  refine mj_b_ialdN (hE := fe_139_671) (v := X (i + 1)) (c := i + 1) (hM := h0) (ht := Or.inl rfl) (hj := nI_add i 1) (hc := by omega) (hn := by omega) (hv := hx _) (k := ?_)
  refine mj_b_callR (hE := fe_139_672) (hi := in_81) (h1 := g81 (X (i + 1)) hc.2.2.1.st hc.1) (hc := mj_cok_v rfl rfl h1) (ha := rfl) (hr := rfl) ?_
  refine mj_b_rload_n (hE := fe_139_675) (hv := rfl) (k := ?_)
  refine mj_b_rload_n (hE := fe_139_676) (hv := rfl) (k := ?_)
  refine mj_b_iload_n (hE := fe_139_677) (hv := rfl) (k := ?_)
  refine mj_b_iconst (hE := fe_139_678) (k := ?_)
  refine mj_b_iadd (hE := fe_139_679) (k := ?_)
  refine mj_b_ialdN (hE := fe_139_680) (v := X (i + 1)) (c := i + 1) (hM := h0) (ht := Or.inl rfl) (hj := nI_add i 1) (hc := by omega) (hn := by omega) (hv := hx _) (k := ?_)
  refine mj_b_callR (hE := fe_139_681) (hi := in_132) (h1 := g132 (X (i + 1)) hmm hm.1.2.1.1 hm.1.2.1.2) (hc := mj_cok_v rfl rfl h87) (ha := rfl) (hr := rfl) ?_
  refine mj_b_if2 (hE := fe_139_684) (kt := fun g => ?_) (kf := fun g => absurd (Eq.symm (q_stamp hc hm hr _)) (of_decide_eq_false g))
  exact hk I R (lw_in.mono ⟨sn, sx, pn, px, S, H, f, w, ms, rs, hs, hc, hm, hmm, hr, hX⟩ (by omega))
set_option maxHeartbeats 4000000 in
theorem lc_15 (h : lw_in n X I R) (hn : n < 1000) (hL : L ≤ 2560) (hi : i + 5 ≤ L) (hk : ∀ I' R', lw_in (n + 1) X I' R' → mj_T pj_P 139 838 [.ref 0, .ref 1, .ref 87, .int (nI i)] [] (mz_SH L, I', R') Q) : mj_T pj_P 139 689 [.ref 0, .ref 1, .ref 87, .int (nI i)] [] (mz_SH L, I, R) Q := by
  obtain ⟨sn, sx, pn, px, S, H, f, w, ms, rs, hs, hc, hm, hmm, hr, hX⟩ := h
  have h0 : (mz_SH L)[0]? = some (64, L) := rfl
  have h1 := sh_1 L
  have h87 := sm_87 L
  have hx := hX
  refine mj_b_rload_n (hE := fe_139_689) (hv := rfl) (k := ?_)
  refine mj_b_rload_n (hE := fe_139_690) (hv := rfl) (k := ?_)
  refine mj_b_iload_n (hE := fe_139_691) (hv := rfl) (k := ?_)
  refine mj_b_iconst (hE := fe_139_692) (k := ?_)
  refine mj_b_iadd (hE := fe_139_693) (k := ?_)
  refine mj_b_ialdN (hE := fe_139_694) (v := X (i + 1)) (c := i + 1) (hM := h0) (ht := Or.inl rfl) (hj := nI_add i 1) (hc := by omega) (hn := by omega) (hv := hx _) (k := ?_)
  refine mj_b_rload_n (hE := fe_139_695) (hv := rfl) (k := ?_)
  refine mj_b_iload_n (hE := fe_139_696) (hv := rfl) (k := ?_)
  refine mj_b_iconst (hE := fe_139_697) (k := ?_)
  refine mj_b_iadd (hE := fe_139_698) (k := ?_)
  refine mj_b_ialdN (hE := fe_139_699) (v := X (i + 2)) (c := i + 2) (hM := h0) (ht := Or.inl rfl) (hj := nI_add i 2) (hc := by omega) (hn := by omega) (hv := hx _) (k := ?_)
  refine mj_b_callR (hE := fe_139_700) (hi := in_82) (h1 := g82 (X (i + 1)) (X (i + 2)) hc.2.2.1.st hc.1) (hc := mj_cok_v rfl rfl h1) (ha := rfl) (hr := rfl) ?_
  refine mj_b_rload_n (hE := fe_139_703) (hv := rfl) (k := ?_)
  refine mj_b_rload_n (hE := fe_139_704) (hv := rfl) (k := ?_)
  refine mj_b_iload_n (hE := fe_139_705) (hv := rfl) (k := ?_)
  refine mj_b_iconst (hE := fe_139_706) (k := ?_)
  refine mj_b_iadd (hE := fe_139_707) (k := ?_)
  refine mj_b_ialdN (hE := fe_139_708) (v := X (i + 1)) (c := i + 1) (hM := h0) (ht := Or.inl rfl) (hj := nI_add i 1) (hc := by omega) (hn := by omega) (hv := hx _) (k := ?_)
  refine mj_b_rload_n (hE := fe_139_709) (hv := rfl) (k := ?_)
  refine mj_b_iload_n (hE := fe_139_710) (hv := rfl) (k := ?_)
  refine mj_b_iconst (hE := fe_139_711) (k := ?_)
  refine mj_b_iadd (hE := fe_139_712) (k := ?_)
  refine mj_b_ialdN (hE := fe_139_713) (v := X (i + 2)) (c := i + 2) (hM := h0) (ht := Or.inl rfl) (hj := nI_add i 2) (hc := by omega) (hn := by omega) (hv := hx _) (k := ?_)
  refine mj_b_callR (hE := fe_139_714) (hi := in_133) (h1 := g133 (X (i + 1)) (X (i + 2)) hmm hm.1.2.1.1 hm.1.2.1.2) (hc := mj_cok_v rfl rfl h87) (ha := rfl) (hr := rfl) ?_
  refine mj_b_if2 (hE := fe_139_717) (kt := fun g => ?_) (kf := fun g => absurd (Eq.symm (q_prop hc hm hr _ _)) (of_decide_eq_false g))
  exact hk I R (lw_in.mono ⟨sn, sx, pn, px, S, H, f, w, ms, rs, hs, hc, hm, hmm, hr, hX⟩ (by omega))
set_option maxHeartbeats 4000000 in
theorem lc_16 (h : lw_in n X I R) (hn : n < 1000) (hL : L ≤ 2560) (hi : i + 5 ≤ L) (hk : ∀ I' R', lw_in (n + 1) X I' R' → mj_T pj_P 139 838 [.ref 0, .ref 1, .ref 87, .int (nI i)] [] (mz_SH L, I', R') Q) : mj_T pj_P 139 722 [.ref 0, .ref 1, .ref 87, .int (nI i)] [] (mz_SH L, I, R) Q := by
  obtain ⟨sn, sx, pn, px, S, H, f, w, ms, rs, hs, hc, hm, hmm, hr, hX⟩ := h
  have h0 : (mz_SH L)[0]? = some (64, L) := rfl
  have h1 := sh_1 L
  have h87 := sm_87 L
  have hx := hX
  refine mj_b_rload_n (hE := fe_139_722) (hv := rfl) (k := ?_)
  refine mj_b_rload_n (hE := fe_139_723) (hv := rfl) (k := ?_)
  refine mj_b_iload_n (hE := fe_139_724) (hv := rfl) (k := ?_)
  refine mj_b_iconst (hE := fe_139_725) (k := ?_)
  refine mj_b_iadd (hE := fe_139_726) (k := ?_)
  refine mj_b_ialdN (hE := fe_139_727) (v := X (i + 1)) (c := i + 1) (hM := h0) (ht := Or.inl rfl) (hj := nI_add i 1) (hc := by omega) (hn := by omega) (hv := hx _) (k := ?_)
  refine mj_b_rload_n (hE := fe_139_728) (hv := rfl) (k := ?_)
  refine mj_b_iload_n (hE := fe_139_729) (hv := rfl) (k := ?_)
  refine mj_b_iconst (hE := fe_139_730) (k := ?_)
  refine mj_b_iadd (hE := fe_139_731) (k := ?_)
  refine mj_b_ialdN (hE := fe_139_732) (v := X (i + 2)) (c := i + 2) (hM := h0) (ht := Or.inl rfl) (hj := nI_add i 2) (hc := by omega) (hn := by omega) (hv := hx _) (k := ?_)
  refine mj_b_callR (hE := fe_139_733) (hi := in_83) (h1 := g83 (X (i + 1)) (X (i + 2)) hc.2.2.1.st hc.1) (hc := mj_cok_v rfl rfl h1) (ha := rfl) (hr := rfl) ?_
  refine mj_b_rload_n (hE := fe_139_736) (hv := rfl) (k := ?_)
  refine mj_b_rload_n (hE := fe_139_737) (hv := rfl) (k := ?_)
  refine mj_b_iload_n (hE := fe_139_738) (hv := rfl) (k := ?_)
  refine mj_b_iconst (hE := fe_139_739) (k := ?_)
  refine mj_b_iadd (hE := fe_139_740) (k := ?_)
  refine mj_b_ialdN (hE := fe_139_741) (v := X (i + 1)) (c := i + 1) (hM := h0) (ht := Or.inl rfl) (hj := nI_add i 1) (hc := by omega) (hn := by omega) (hv := hx _) (k := ?_)
  refine mj_b_rload_n (hE := fe_139_742) (hv := rfl) (k := ?_)
  refine mj_b_iload_n (hE := fe_139_743) (hv := rfl) (k := ?_)
  refine mj_b_iconst (hE := fe_139_744) (k := ?_)
  refine mj_b_iadd (hE := fe_139_745) (k := ?_)
  refine mj_b_ialdN (hE := fe_139_746) (v := X (i + 2)) (c := i + 2) (hM := h0) (ht := Or.inl rfl) (hj := nI_add i 2) (hc := by omega) (hn := by omega) (hv := hx _) (k := ?_)
  refine mj_b_callR (hE := fe_139_747) (hi := in_134) (h1 := g134q (X (i + 1)) (X (i + 2)) hmm hm.1.lkq) (hc := mj_cok_v rfl rfl h87) (ha := rfl) (hr := rfl) ?_
  refine mj_b_if2 (hE := fe_139_750) (kt := fun g => ?_) (kf := fun g => absurd (Eq.symm (q_cov hc hm _ _)) (of_decide_eq_false g))
  exact hk I R (lw_in.mono ⟨sn, sx, pn, px, S, H, f, w, ms, rs, hs, hc, hm, hmm, hr, hX⟩ (by omega))
set_option maxHeartbeats 4000000 in
theorem lc_17 (h : lw_in n X I R) (hn : n < 1000) (hL : L ≤ 2560) (hi : i + 5 ≤ L) (hk : ∀ I' R', lw_in (n + 1) X I' R' → mj_T pj_P 139 838 [.ref 0, .ref 1, .ref 87, .int (nI i)] [] (mz_SH L, I', R') Q) : mj_T pj_P 139 755 [.ref 0, .ref 1, .ref 87, .int (nI i)] [] (mz_SH L, I, R) Q := by
  obtain ⟨sn, sx, pn, px, S, H, f, w, ms, rs, hs, hc, hm, hmm, hr, hX⟩ := h
  have h0 : (mz_SH L)[0]? = some (64, L) := rfl
  have h1 := sh_1 L
  have h87 := sm_87 L
  have hx := hX
  refine mj_b_rload_n (hE := fe_139_755) (hv := rfl) (k := ?_)
  refine mj_b_rload_n (hE := fe_139_756) (hv := rfl) (k := ?_)
  refine mj_b_iload_n (hE := fe_139_757) (hv := rfl) (k := ?_)
  refine mj_b_iconst (hE := fe_139_758) (k := ?_)
  refine mj_b_iadd (hE := fe_139_759) (k := ?_)
  refine mj_b_ialdN (hE := fe_139_760) (v := X (i + 1)) (c := i + 1) (hM := h0) (ht := Or.inl rfl) (hj := nI_add i 1) (hc := by omega) (hn := by omega) (hv := hx _) (k := ?_)
  refine mj_b_callR (hE := fe_139_761) (hi := in_84) (h1 := g84 (X (i + 1)) hc.2.2.1.st hc.1) (hc := mj_cok_v rfl rfl h1) (ha := rfl) (hr := rfl) ?_
  refine mj_b_rload_n (hE := fe_139_764) (hv := rfl) (k := ?_)
  refine mj_b_rload_n (hE := fe_139_765) (hv := rfl) (k := ?_)
  refine mj_b_iload_n (hE := fe_139_766) (hv := rfl) (k := ?_)
  refine mj_b_iconst (hE := fe_139_767) (k := ?_)
  refine mj_b_iadd (hE := fe_139_768) (k := ?_)
  refine mj_b_ialdN (hE := fe_139_769) (v := X (i + 1)) (c := i + 1) (hM := h0) (ht := Or.inl rfl) (hj := nI_add i 1) (hc := by omega) (hn := by omega) (hv := hx _) (k := ?_)
  refine mj_b_callR (hE := fe_139_770) (hi := in_135) (h1 := g135q (X (i + 1)) hmm hm.1.lkq hm.1.exq) (hc := mj_cok_v rfl rfl h87) (ha := rfl) (hr := rfl) ?_
  have he := q_lko hc hm (X (i + 1))
  rw [he]
  refine mj_b_lcmp (hE := fe_139_773) (k := ?_)
  refine mj_b_if1 (hE := fe_139_774) (kt := fun g => ?_) (kf := fun g => absurd (by simp [lg_cmp]) (of_decide_eq_false g))
  exact hk I R (lw_in.mono ⟨sn, sx, pn, px, S, H, f, w, ms, rs, hs, hc, hm, hmm, hr, hX⟩ (by omega))
set_option maxHeartbeats 4000000 in
theorem lc_18 (h : lw_in n X I R) (hn : n < 1000) (hL : L ≤ 2560) (hi : i + 5 ≤ L) (hk : ∀ I' R', lw_in (n + 1) X I' R' → mj_T pj_P 139 838 [.ref 0, .ref 1, .ref 87, .int (nI i)] [] (mz_SH L, I', R') Q) : mj_T pj_P 139 779 [.ref 0, .ref 1, .ref 87, .int (nI i)] [] (mz_SH L, I, R) Q := by
  obtain ⟨sn, sx, pn, px, S, H, f, w, ms, rs, hs, hc, hm, hmm, hr, hX⟩ := h
  have h0 : (mz_SH L)[0]? = some (64, L) := rfl
  have h1 := sh_1 L
  have h87 := sm_87 L
  have hx := hX
  refine mj_b_rload_n (hE := fe_139_779) (hv := rfl) (k := ?_)
  refine mj_b_rload_n (hE := fe_139_780) (hv := rfl) (k := ?_)
  refine mj_b_iload_n (hE := fe_139_781) (hv := rfl) (k := ?_)
  refine mj_b_iconst (hE := fe_139_782) (k := ?_)
  refine mj_b_iadd (hE := fe_139_783) (k := ?_)
  refine mj_b_ialdN (hE := fe_139_784) (v := X (i + 1)) (c := i + 1) (hM := h0) (ht := Or.inl rfl) (hj := nI_add i 1) (hc := by omega) (hn := by omega) (hv := hx _) (k := ?_)
  refine mj_b_callR (hE := fe_139_785) (hi := in_85) (h1 := g85 (X (i + 1)) hc.1 hc.2.2.2.2.2.2.2.1.1 hc.2.2.2.2.2.2.2.1.2) (hc := mj_cok_v rfl rfl h1) (ha := rfl) (hr := rfl) ?_
  refine mj_b_rload_n (hE := fe_139_788) (hv := rfl) (k := ?_)
  refine mj_b_rload_n (hE := fe_139_789) (hv := rfl) (k := ?_)
  refine mj_b_iload_n (hE := fe_139_790) (hv := rfl) (k := ?_)
  refine mj_b_iconst (hE := fe_139_791) (k := ?_)
  refine mj_b_iadd (hE := fe_139_792) (k := ?_)
  refine mj_b_ialdN (hE := fe_139_793) (v := X (i + 1)) (c := i + 1) (hM := h0) (ht := Or.inl rfl) (hj := nI_add i 1) (hc := by omega) (hn := by omega) (hv := hx _) (k := ?_)
  refine mj_b_callR (hE := fe_139_794) (hi := in_136) (h1 := g136 (X (i + 1)) hmm hm.2.2.2.2.2.1.1 hm.2.2.2.2.2.1.2) (hc := mj_cok_v rfl rfl h87) (ha := rfl) (hr := rfl) ?_
  refine mj_b_if2 (hE := fe_139_797) (kt := fun g => ?_) (kf := fun g => absurd (Eq.symm (q_mul hc hm _)) (of_decide_eq_false g))
  exact hk I R (lw_in.mono ⟨sn, sx, pn, px, S, H, f, w, ms, rs, hs, hc, hm, hmm, hr, hX⟩ (by omega))
set_option maxHeartbeats 4000000 in
theorem lc_19 (h : lw_in n X I R) (hn : n < 1000) (hL : L ≤ 2560) (hi : i + 5 ≤ L) (hk : ∀ I' R', lw_in (n + 1) X I' R' → mj_T pj_P 139 838 [.ref 0, .ref 1, .ref 87, .int (nI i)] [] (mz_SH L, I', R') Q) : mj_T pj_P 139 802 [.ref 0, .ref 1, .ref 87, .int (nI i)] [] (mz_SH L, I, R) Q := by
  obtain ⟨sn, sx, pn, px, S, H, f, w, ms, rs, hs, hc, hm, hmm, hr, hX⟩ := h
  have h0 : (mz_SH L)[0]? = some (64, L) := rfl
  have h1 := sh_1 L
  have h87 := sm_87 L
  have hx := hX
  refine mj_b_rload_n (hE := fe_139_802) (hv := rfl) (k := ?_)
  refine mj_b_callR (hE := fe_139_803) (hi := in_86) (h1 := g86) (hc := mj_cok_v rfl rfl h1) (ha := rfl) (hr := rfl) ?_
  refine mj_b_rload_n (hE := fe_139_806) (hv := rfl) (k := ?_)
  refine mj_b_callR (hE := fe_139_807) (hi := in_137) (h1 := g137) (hc := mj_cok_v rfl rfl h87) (ha := rfl) (hr := rfl) ?_
  refine mj_b_if2 (hE := fe_139_810) (kt := fun g => ?_) (kf := fun g => absurd (Eq.symm (hm.2.2.2.2.1.trans hc.2.2.2.2.2.2.1.symm)) (of_decide_eq_false g))
  exact hk I R (lw_in.mono ⟨sn, sx, pn, px, S, H, f, w, ms, rs, hs, hc, hm, hmm, hr, hX⟩ (by omega))
set_option maxHeartbeats 4000000 in
theorem lc_20 (h : lw_in n X I R) (hn : n < 1000) (hL : L ≤ 2560) (hi : i + 5 ≤ L) (hk : ∀ I' R', lw_in (n + 1) X I' R' → mj_T pj_P 139 838 [.ref 0, .ref 1, .ref 87, .int (nI i)] [] (mz_SH L, I', R') Q) : mj_T pj_P 139 815 [.ref 0, .ref 1, .ref 87, .int (nI i)] [] (mz_SH L, I, R) Q := by
  obtain ⟨sn, sx, pn, px, S, H, f, w, ms, rs, hs, hc, hm, hmm, hr, hX⟩ := h
  have h0 : (mz_SH L)[0]? = some (64, L) := rfl
  have h1 := sh_1 L
  have h87 := sm_87 L
  have hx := hX
  have hone : 1 ≤ S.1.length := by
    obtain ⟨r0, a4, -⟩ := hr.2.1.1.2.2.2
    exact List.length_pos_of_mem a4
  refine mj_b_rload_n (hE := fe_139_815) (hv := rfl) (k := ?_)
  refine mj_b_rload_n (hE := fe_139_816) (hv := rfl) (k := ?_)
  refine mj_b_iload_n (hE := fe_139_817) (hv := rfl) (k := ?_)
  refine mj_b_iconst (hE := fe_139_818) (k := ?_)
  refine mj_b_iadd (hE := fe_139_819) (k := ?_)
  refine mj_b_ialdN (hE := fe_139_820) (v := X (i + 1)) (c := i + 1) (hM := h0) (ht := Or.inl rfl) (hj := nI_add i 1) (hc := by omega) (hn := by omega) (hv := hx _) (k := ?_)
  refine mj_b_callR (hE := fe_139_821) (hi := in_87) (h1 := g87 (X (i + 1)) hc.2.2.1.st hc.1 hone) (hc := mj_cok_v rfl rfl h1) (ha := rfl) (hr := rfl) ?_
  refine mj_b_rload_n (hE := fe_139_824) (hv := rfl) (k := ?_)
  refine mj_b_rload_n (hE := fe_139_825) (hv := rfl) (k := ?_)
  refine mj_b_iload_n (hE := fe_139_826) (hv := rfl) (k := ?_)
  refine mj_b_iconst (hE := fe_139_827) (k := ?_)
  refine mj_b_iadd (hE := fe_139_828) (k := ?_)
  refine mj_b_ialdN (hE := fe_139_829) (v := X (i + 1)) (c := i + 1) (hM := h0) (ht := Or.inl rfl) (hj := nI_add i 1) (hc := by omega) (hn := by omega) (hv := hx _) (k := ?_)
  refine mj_b_callR (hE := fe_139_830) (hi := in_138) (h1 := g138 (X (i + 1)) hmm hm.1.2.1.1 hm.1.2.1.2) (hc := mj_cok_v rfl rfl h87) (ha := rfl) (hr := rfl) ?_
  refine mj_b_if2 (hE := fe_139_833) (kt := fun g => ?_) (kf := fun g => absurd (Eq.symm (q_lst hc hm hr _)) (of_decide_eq_false g))
  exact hk I R (lw_in.mono ⟨sn, sx, pn, px, S, H, f, w, ms, rs, hs, hc, hm, hmm, hr, hX⟩ (by omega))
set_option maxHeartbeats 4000000 in
theorem lc_1 (h : lw_in n X I R) (hn : n < 1000) (hL : L ≤ 2560) (hi : i + 5 ≤ L) (hk : ∀ I' R', lw_in (n + 1) X I' R' → mj_T pj_P 139 838 [.ref 0, .ref 1, .ref 87, .int (nI i)] [] (mz_SH L, I', R') Q) : mj_T pj_P 139 157 [.ref 0, .ref 1, .ref 87, .int (nI i)] [] (mz_SH L, I, R) Q := by
  obtain ⟨sn, sx, pn, px, S, H, f, w, ms, rs, hs, hc, hm, hmm, hr, hX⟩ := h
  have h0 : (mz_SH L)[0]? = some (64, L) := rfl
  have h1 := sh_1 L
  have h87 := sm_87 L
  have hx := hX
  refine mj_b_rload_n (hE := fe_139_157) (hv := rfl) (k := ?_)
  refine mj_b_rload_n (hE := fe_139_158) (hv := rfl) (k := ?_)
  refine mj_b_iload_n (hE := fe_139_159) (hv := rfl) (k := ?_)
  refine mj_b_iconst (hE := fe_139_160) (k := ?_)
  refine mj_b_iadd (hE := fe_139_161) (k := ?_)
  refine mj_b_ialdN (hE := fe_139_162) (v := X (i + 1)) (c := i + 1) (hM := h0) (ht := Or.inl rfl) (hj := nI_add i 1) (hc := by omega) (hn := by omega) (hv := hx _) (k := ?_)
  refine mj_b_call (hE := fe_139_163) (hi := in_16) (h1 := g16 (X (i + 1))) (hc := mj_cok_v rfl rfl h1) (ha := rfl) (hr := rfl) ?_
  rintro v' M1 hM
  cases hM
  have hX1 : ∀ j, (if c_fal (X (i + 1)) = true then mj_u I 1 3 (X (i + 1)) else I) 0 j = X j := fun j => by
    split
    · rw [mj_u_na _ _ _ _ (by omega)]; exact hX j
    · exact hX j
  clear hx
  have hx := hX1
  refine mj_b_rload_n (hE := fe_139_166) (hv := rfl) (k := ?_)
  refine mj_b_rload_n (hE := fe_139_167) (hv := rfl) (k := ?_)
  refine mj_b_iload_n (hE := fe_139_168) (hv := rfl) (k := ?_)
  refine mj_b_iconst (hE := fe_139_169) (k := ?_)
  refine mj_b_iadd (hE := fe_139_170) (k := ?_)
  refine mj_b_ialdN (hE := fe_139_171) (v := X (i + 1)) (c := i + 1) (hM := h0) (ht := Or.inl rfl) (hj := nI_add i 1) (hc := by omega) (hn := by omega) (hv := hx _) (k := ?_)
  refine mj_b_call (hE := fe_139_172) (hi := in_90) (h1 := g90 (X (i + 1))) (hc := mj_cok_v rfl rfl h87) (ha := rfl) (hr := rfl) ?_
  rintro v' M2 hM
  cases hM
  refine mj_b_if2 (hE := fe_139_175) (kt := fun g => ?_) (kf := fun g => absurd (by rw [q_fal]) (of_decide_eq_false g))
  refine hk _ R ?_
  rw [q_fal]
  cases hv : c_fal (X (i + 1)) with
  | false =>
    simp only [Bool.false_eq_true, if_false]
    exact lw_in.mono ⟨sn, sx, pn, px, S, H, f, w, ms, rs, hs, hc, hm, hmm, hr, hX⟩ (by omega)
  | true =>
    simp only [if_true]
    refine lw_in.mono ⟨sn, sx, pn, px, S, H, X (i + 1), w, ms, rs, hs, ?_, ?_, hmm, ⟨hr.1, hr.2.1, hr.2.2.1, hr.2.2.2.1, q_falok hv⟩, fun j => by rw [mj_u_na _ _ _ _ (by omega), mj_u_na _ _ _ _ (by omega)]; exact hX j⟩ (by omega)
    · have h2 : c_all sn sx pn px S H (X (i + 1)) w ms (mj_u I 1 3 (X (i + 1))) R := by
        obtain ⟨t, hsx, hs2, hok, hh, hf1, hw, ⟨m1, m2⟩, m3⟩ := hc
        have hst : cs_rep sn pn S (mj_u I 1 3 (X (i + 1))) R := by
          obtain ⟨hb, hok2, ⟨n1, n2⟩, ⟨l1, l2⟩, hro, hk2, k1, k2, k3⟩ := hs2
          refine ⟨hb, hok2, ⟨?_, n2⟩, ⟨?_, l2⟩, ?_, ?_, ?_, ?_, ?_⟩
          · rw [mj_u_na _ _ _ _ (by omega)]; exact n1
          · rw [mj_u_na _ _ _ _ (by omega)]; exact l1
          · intro q r hi
            rw [rw_at_eq (I := I)]
            · exact hro q r hi
            · intro k; exact mj_u_na _ _ _ _ (by unfold cs_row; omega)
            · intro k; exact mj_u_na _ _ _ _ (by unfold cs_row; omega)
          · intro q l hi
            exact lk_at_eq (fun k => mj_u_na _ _ _ _ (by omega)) (hk2 q l hi)
          · rw [mj_u_na _ _ _ _ (by omega)]; exact k1
          · rw [mj_u_na _ _ _ _ (by omega)]; exact k2
          · rw [mj_u_na _ _ _ _ (by omega)]; exact k3
        exact ⟨t, hsx, hst, hok, hh.eq (fun x j h1 h2 => mj_u_na _ _ _ _ (by omega)) (fun _ _ _ _ => rfl), by simp [mj_u], by simp [mj_u, hw], ⟨by simp [mj_u, m1], m2⟩, fun q v hi => by rw [mj_u_na _ _ _ _ (by omega)]; exact m3 q v hi⟩
      exact h2.frM (fr_M.u (by omega) (by omega))
    · obtain ⟨b1, ⟨b2, b3⟩, b4, b5, b6, ⟨b7, b8⟩, b9⟩ := hm.frC (I' := mj_u I 1 3 (X (i + 1))) (fr_C.u (by omega) (by omega))
      exact ⟨b1.eq (fun x j _ _ => mj_u_na _ _ _ _ (by omega)), ⟨by rw [← b2]; simp [mj_u], b3⟩, fun q c hq => by rw [mj_u_na _ _ _ _ (by omega)]; exact b4 q c hq, by simp [mj_u], by rw [← b6]; simp [mj_u], ⟨by rw [← b7]; simp [mj_u], b8⟩, fun q v hq => by rw [mj_u_na _ _ _ _ (by omega)]; exact b9 q v hq⟩
theorem ch_char (a : Int32) : ((a.toUInt32 % 65536).toInt32).toUInt32.toUInt16.toUInt32.toInt32 = (a.toUInt32 % 65536).toInt32 := by
  have e : ∀ u : UInt32, ((u % 65536).toInt32).toUInt32.toUInt16.toUInt32 = u % 65536 := by
    intro u
    apply UInt32.toNat_inj.mp
    simp
  rw [e]
set_option maxHeartbeats 4000000 in
theorem lc_0 (h : lw_in n X I R) (hn : n < 1000) (hL : L ≤ 2560) (hi : i + 5 ≤ L) (hk : ∀ I' R', lw_in (n + 1) X I' R' → mj_T pj_P 139 838 [.ref 0, .ref 1, .ref 87, .int (nI i)] [] (mz_SH L, I', R') Q) : mj_T pj_P 139 132 [.ref 0, .ref 1, .ref 87, .int (nI i)] [] (mz_SH L, I, R) Q := by
  obtain ⟨sn, sx, pn, px, S, H, f, w, ms, rs, hs, hc, hm, hmm, hr, hX⟩ := h
  have h0 : (mz_SH L)[0]? = some (64, L) := rfl
  have h1 := sh_1 L
  have h87 := sm_87 L
  have hx := hX
  refine mj_b_rload_n (hE := fe_139_132) (hv := rfl) (k := ?_)
  refine mj_b_rload_n (hE := fe_139_133) (hv := rfl) (k := ?_)
  refine mj_b_iload_n (hE := fe_139_134) (hv := rfl) (k := ?_)
  refine mj_b_iconst (hE := fe_139_135) (k := ?_)
  refine mj_b_iadd (hE := fe_139_136) (k := ?_)
  refine mj_b_ialdN (hE := fe_139_137) (v := X (i + 1)) (c := i + 1) (hM := h0) (ht := Or.inl rfl) (hj := nI_add i 1) (hc := by omega) (hn := by omega) (hv := hx _) (k := ?_)
  refine mj_b_i2c (hE := fe_139_138) (k := ?_)
  refine mj_b_call (hE := fe_139_139) (hi := in_6) (h1 := g6 _ hc) (hc := mj_cok_v rfl rfl h1) (ha := rfl) (hr := rfl) ?_
  rintro v' M1 ⟨I1, hM, hc1, fI1⟩
  cases hM
  have hm1 := hm.frC fI1
  have hX1 : ∀ j, I1 0 j = X j := fun j => by rw [fI1 _ _ (by omega)]; exact hX j
  clear hx
  have hx := hX1
  refine mj_b_rload_n (hE := fe_139_142) (hv := rfl) (k := ?_)
  refine mj_b_rload_n (hE := fe_139_143) (hv := rfl) (k := ?_)
  refine mj_b_iload_n (hE := fe_139_144) (hv := rfl) (k := ?_)
  refine mj_b_iconst (hE := fe_139_145) (k := ?_)
  refine mj_b_iadd (hE := fe_139_146) (k := ?_)
  refine mj_b_ialdN (hE := fe_139_147) (v := X (i + 1)) (c := i + 1) (hM := h0) (ht := Or.inl rfl) (hj := nI_add i 1) (hc := by omega) (hn := by omega) (hv := hx _) (k := ?_)
  refine mj_b_i2c (hE := fe_139_148) (k := ?_)
  refine mj_b_call (hE := fe_139_149) (hi := in_89) (h1 := g89 _ (ch_char _) hmm hm1) (hc := mj_cok_v rfl rfl h87) (ha := rfl) (hr := rfl) ?_
  rintro v' M2 ⟨I2, hM, hall, fM⟩
  cases hM
  obtain ⟨hp, hwf, ⟨z, hH⟩, hnm, hfo⟩ := hr
  have hq := q_head (z := z) (hs := hs) (c := ((X (i + 1)).toUInt32 % 65536).toInt32)
  rw [← hH] at hq
  refine mj_b_if2 (hE := fe_139_152) (kt := fun g => ?_) (kf := fun g => absurd (by rw [hq.1]) (of_decide_eq_false g))
  refine hk I2 R (lw_in.mono ⟨sn, sx, pn, px, S, _, f, w, ms, rs, m_hed hs (((X (i + 1)).toUInt32 % 65536).toInt32), hc1.frM fM, hall, hmm, ⟨hp, hwf, ⟨z, hq.2⟩, ?_, hfo⟩, fun j => by rw [fM _ _ (by omega)]; exact hX1 j⟩ (by omega))
  intro c hcm
  unfold m_hed at hcm
  split at hcm
  · rename_i hy
    rcases List.mem_append.mp hcm with hcm | hcm
    · exact hnm c hcm
    · rw [List.mem_singleton.mp hcm]; exact hy.2
  · exact hnm c hcm
end LB
