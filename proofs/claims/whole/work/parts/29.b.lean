/-! ===== the class: put, mkcol, patch, tick ===== -/
section RB
variable {L sn sx n : Nat} {pn px : Nat → Nat} {S : ty_st} {H : ty_hd} {f w : Int32} {ms : List Int32} {I : Nat → Nat → Int32} {R : Nat → Nat → Option Nat}
def o_put (S : ty_st) (H : ty_hd) (f w : Int32) (ms : List Int32) (p b : Int32) : ty_oc :=
  o_ans S w ms (a_two (a_fstR S.1 S.2.1 H p (pf_path p && pf_from b 0 999999)) (a_putR S.1 S.2.1 (a_sub H.1) p)) (o_car S f w ms (x_put S p b) (if ar_has S.1 p = true then 204 else 201))
set_option maxHeartbeats 2000000 in
/-- LockedTree.put -/
theorem g18 (p b : Int32) (hw : wf_st n S) (h : c_all sn sx pn px S H f w ms I R) :
    mj_G pj_P 18 [.ref 1, .int p, .int b] (mz_SH L, I, R) (o_post L I R H (o_put S H f w ms p b)) := by
  have h1 := sh_1 L
  have hsx : sx = 2 ∨ sx = 37 := by have := h.2.1; omega
  have hne : sx ≠ sn := by have := h.2.1; omega
  have t1 := h.1.1
  have t2 := h.1.2.1
  have hSx := sh_S L hsx
  have hSn := sh_S L h.2.2.1.1
  have hso : ar_sorted S.1 := hw.1.1
  have h95 : ∀ (I1 : Nat → Nat → Int32) (R1 : Nat → Nat → Option Nat) (px1 : Nat → Nat) (v3 v4 : Value), c_all sn sx pn px1 S H f w ms I1 R1 → cs_rep sx px1 (x_put S p b) I1 R1 → fr_C I I1 → fr_C R R1 → mj_T pj_P 18 95 [.ref 1, .int p, .int b, v3, v4] [] (mz_SH L, I1, R1) (o_post L I R H (o_car S f w ms (x_put S p b) (if ar_has S.1 p = true then 204 else 201))) := by
    intro I1 R1 px1 v3 v4 hc hx fI fR
    have t1 := hc.1.1
    refine mj_b_rload_n (hE := fe_18_95) (hv := rfl) (k := ?_)
    refine mj_b_rload_n (hE := fe_18_96) (hv := rfl) (k := ?_)
    refine mj_b_getQ (hE := fe_18_97) (hM := by assumption) (hv := by assumption) (k := ?_)
    refine mj_b_iload_n (hE := fe_18_100) (hv := rfl) (k := ?_)
    refine mj_b_callR (hE := fe_18_101) (hi := in_32) (h1 := g32' p hc.2.2.1) (hc := mj_cok_v rfl rfl hSn) (ha := rfl) (hr := rfl) ?_
    refine mj_b_if1 (hE := fe_18_104) (kt := fun g => ?_) (kf := fun g => ?_)
    · simp only [mj_cnd, decide_eq_true_eq, pz_0] at g
      refine mj_b_sipush (hE := fe_18_113) (k := ?_)
      rw [g, if_neg (by decide)]
      exact q_carry fe_18_116 fe_18_119 in_18 hc hx fI fR 201
    · simp only [mj_cnd, decide_eq_false_iff_not, pz_0, Bool.not_eq_false] at g
      refine mj_b_sipush (hE := fe_18_107) (k := ?_)
      refine mj_b_goto (hE := fe_18_110) (k := ?_)
      rw [g, if_pos rfl]
      exact q_carry fe_18_116 fe_18_119 in_18 hc hx fI fR 204
  have h77 : ∀ (I1 : Nat → Nat → Int32) (R1 : Nat → Nat → Option Nat) (px1 : Nat → Nat) (j : Nat) (r : ty_rw) (S1 : ty_st) (v3 : Value), cs_rep sx px1 S1 I1 R1 → S1.1[j]? = some r → c_all sn sx pn px1 S H f w ms I1 R1 → fr_C I I1 → fr_C R R1 → (S1.1.set j (r.1, r.2.1, b, S1.2.2.2.1, r.2.2.2.2), S1.2.1, S1.2.2.1, S1.2.2.2.1 + 1, S1.2.2.2.2) = x_put S p b → mj_T pj_P 18 77 [.ref 1, .int p, .int b, v3, .ref (cs_row sx px1 j)] [] (mz_SH L, I1, R1) (o_post L I R H (o_car S f w ms (x_put S p b) (if ar_has S.1 p = true then 204 else 201))) := by
    intro I1 R1 px1 j r S1 v3 hx hj hc fI fR he
    have hjl := (List.getElem?_eq_some_iff.mp hj).1
    have hj13 : j < 13 := by have := hx.2.2.1.2; omega
    have hC : (mz_SH L)[cs_row sx px1 j]? = some (2, 5) := sh_R L hsx (hx.2.1.2.2.1 j hj13).2
    have t2 := hc.1.2.1
    have hx1 := hx.body hj b
    have e5 := hx1.2.2.2.2.2.2.2.1
    refine mj_b_rload (hE := fe_18_77) (hv := rfl) (k := ?_)
    refine mj_b_iload_n (hE := fe_18_79) (hv := rfl) (k := ?_)
    refine mj_b_putI (hE := fe_18_80) (hw := Or.inl rfl) (hM := hC) (k := ?_)
    refine mj_b_rload (hE := fe_18_83) (hv := rfl) (k := ?_)
    refine mj_b_rload_n (hE := fe_18_85) (hv := rfl) (k := ?_)
    refine mj_b_getQ (hE := fe_18_86) (hM := by assumption) (hv := by assumption) (k := ?_)
    refine mj_b_call (hE := fe_18_89) (hi := in_44) (h1 := g44 hsx) (hc := mj_cok_v rfl rfl hSx) (ha := rfl) (hr := rfl) ?_
    rintro v M1 hM
    cases hM
    rw [e5]
    refine (show mj_T pj_P 18 92 _ [.int S1.2.2.2.1, .ref (cs_row sx px1 j)] _ _ from ?_)
    refine mj_b_putI (hE := fe_18_92) (hw := Or.inl rfl) (hM := hC) (k := ?_)
    have hj2 : (S1.1.set j (r.1, r.2.1, b, r.2.2.2))[j]? = some (r.1, r.2.1, b, r.2.2.2) := by simp [hjl]
    have hx2 := hx1.tst hj2
    have hfr : fr_I sx I1 (mj_u (mj_u (mj_u I1 (cs_row sx px1 j) 2 b) sx 5 (S1.2.2.2.1 + 1)) (cs_row sx px1 j) 3 S1.2.2.2.1) := ((fr_row hx.2.1 hj13).trans (fr_I.u (by omega) (by omega))).trans (fr_row hx.2.1 hj13)
    refine h95 _ R1 px1 _ _ (hc.fr hfr fr_R.refl hx.2.1) ?_ (fI.trans (hfr.C hsx)) fR
    rw [← he]
    simpa using hx2
  have h39 : ∀ rr : Int32, rr = a_two (a_fstR S.1 S.2.1 H p (pf_path p && pf_from b 0 999999)) (a_putR S.1 S.2.1 (a_sub H.1) p) → mj_T pj_P 18 39 [.ref 1, .int p, .int b, .int rr, .retAddr 0] [] (mz_SH L, I, R) (o_post L I R H (o_put S H f w ms p b)) := by
    intro rr hrr
    refine mj_b_iload_n (hE := fe_18_39) (hv := rfl) (k := ?_)
    refine mj_b_iconst (hE := fe_18_40) (k := ?_)
    refine mj_b_if2 (hE := fe_18_41) (kt := fun g => ?_) (kf := fun g => ?_)
    · simp only [mj_cnd, decide_eq_true_eq] at g
      rw [hrr] at g
      obtain ⟨g1, g2⟩ := a_two_ok g
      have hpo : o_put S H f w ms p b = o_car S f w ms (x_put S p b) (if ar_has S.1 p = true then 204 else 201) := by unfold o_put o_ans; rw [if_pos g]
      rw [hpo]
      refine mj_b_rload_n (hE := fe_18_50) (hv := rfl) (k := ?_)
      refine mj_b_getQ (hE := fe_18_51) (hM := by assumption) (hv := by assumption) (k := ?_)
      refine mj_b_rload_n (hE := fe_18_54) (hv := rfl) (k := ?_)
      refine mj_b_getQ (hE := fe_18_55) (hM := by assumption) (hv := by assumption) (k := ?_)
      refine mj_b_call (hE := fe_18_58) (hi := in_39) (h1 := g39 hsx hne h.2.2.2.1 h.2.2.1) (hc := mj_cok_v rfl rfl hSx) (ha := rfl) (hr := rfl) ?_
      rintro v M1 ⟨I1, hM, hx, f1⟩
      cases hM
      have hc1 := h.fr f1 fr_R.refl h.2.2.2.1
      refine (show mj_T pj_P 18 61 [.ref 1, .int p, .int b, .int rr, .retAddr 0] [] (mz_SH L, I1, R) _ from ?_)
      refine mj_b_rload_n (hE := fe_18_61) (hv := rfl) (k := ?_)
      refine mj_b_getQ (hE := fe_18_62) (hM := by assumption) (hv := by assumption) (k := ?_)
      refine mj_b_iload_n (hE := fe_18_65) (hv := rfl) (k := ?_)
      refine mj_b_iconst (hE := fe_18_66) (k := ?_)
      have hca : ar_has S.1 p = true ∨ ar_has S.1 p = false := by cases ar_has S.1 p <;> simp
      rcases hca with hh | hh
      · have hfs := ar_fi_has S.1 p
        rw [hh] at hfs
        obtain ⟨j, hj⟩ := Option.isSome_iff_exists.mp hfs
        obtain ⟨r, hr, hrp⟩ := ar_fi_some hj
        refine mj_b_callR (hE := fe_18_67) (hi := in_42) (h1 := g42a p 1 hx hj) (hc := mj_cok_v rfl rfl hSx) (ha := rfl) (hr := rfl) ?_
        refine (show mj_T pj_P 18 70 _ [va_rf (some (cs_row sx px j))] _ _ from ?_)
        refine mj_b_astore (hE := fe_18_70) (hx := Nat.le_of_ble_eq_true rfl) (k := ?_)
        refine mj_b_aload (hE := fe_18_72) (hv := rfl) (k := ?_)
        refine mj_b_nul (hE := fe_18_74) (kn := fun q => ?_) (ks := fun qa q => ?_)
        · cases q
        · refine h77 I1 R px j r S _ hx hr hc1 (f1.C hsx) fr_C.refl ?_
          unfold x_put
          rw [hh, if_pos rfl, ← ar_upd_set S.1 j r hso.nd hr hrp]
      · refine mj_b_call (hE := fe_18_67) (hi := in_42) (h1 := g42m p 1 hx hh (a_putR_ok g2 hh) hso) (hc := mj_cok_v rfl rfl hSx) (ha := rfl) (hr := rfl) ?_
        rintro v M1 ⟨px1, I2, R2, pre, suf, hsp, hsor, hM, hx2, f2, fR2⟩
        cases hM
        refine (show mj_T pj_P 18 70 _ [va_rf (some (cs_row sx px1 pre.length))] _ _ from ?_)
        refine mj_b_astore (hE := fe_18_70) (hx := Nat.le_of_ble_eq_true rfl) (k := ?_)
        refine mj_b_aload (hE := fe_18_72) (hv := rfl) (k := ?_)
        refine mj_b_nul (hE := fe_18_74) (kn := fun q => ?_) (ks := fun qa q => ?_)
        · cases q
        · refine h77 I2 R2 px1 pre.length (p, 1, 0, 0, 0, 0, 0) _ _ hx2 (by simp) (hc1.fr f2 fR2 hx2.2.1) ((f1.C hsx).trans (f2.C hsx)) (fR2.C hsx) ?_
          unfold x_put
          rw [hh, if_neg (by decide), hsp]
          dsimp only
          rw [ins_set (y := (p, 1, b, S.2.2.2.1, 0, 0, 0)) hsor rfl]
    · simp only [mj_cnd, decide_eq_false_iff_not] at g
      have hpo : o_put S H f w ms p b = o_ref S w ms rr := by unfold o_put o_ans; rw [← hrr, if_neg g]
      rw [hpo]
      refine mj_b_rload_n (hE := fe_18_44) (hv := rfl) (k := ?_)
      refine mj_b_iload_n (hE := fe_18_45) (hv := rfl) (k := ?_)
      exact q_close fe_18_46 fe_18_49 in_18 h fr_C.refl fr_C.refl rr
  have h24 : ∀ ok : Bool, ok = (pf_path p && pf_from b 0 999999) → mj_T pj_P 18 24 [.ref 1, .int p, .int b, .retAddr 0, .retAddr 0] [.int (pz ok), .int p, .ref 1] (mz_SH L, I, R) (o_post L I R H (o_put S H f w ms p b)) := by
    intro ok hok
    refine mj_b_callR (hE := fe_18_24) (hi := in_19) (h1 := g19' h p ok) (hc := mj_cok_v rfl rfl h1) (ha := rfl) (hr := rfl) ?_
    refine mj_b_istore_n (hE := fe_18_27) (hx := Nat.le_of_ble_eq_true rfl) (k := ?_)
    refine mj_b_iload_n (hE := fe_18_28) (hv := rfl) (k := ?_)
    refine mj_b_iconst (hE := fe_18_29) (k := ?_)
    refine mj_b_if2 (hE := fe_18_30) (kt := fun g => ?_) (kf := fun g => ?_)
    · simp only [mj_cnd, Bool.not_eq_true', decide_eq_false_iff_not] at g
      exact h39 _ (by rw [← hok]; unfold a_two; rw [if_neg g])
    · simp only [mj_cnd, Bool.not_eq_false', decide_eq_true_eq] at g
      refine mj_b_rload_n (hE := fe_18_33) (hv := rfl) (k := ?_)
      refine mj_b_iload_n (hE := fe_18_34) (hv := rfl) (k := ?_)
      refine mj_b_callR (hE := fe_18_35) (hi := in_29) (h1 := g29' h p) (hc := mj_cok_v rfl rfl h1) (ha := rfl) (hr := rfl) ?_
      refine mj_b_istore_n (hE := fe_18_38) (hx := Nat.le_of_ble_eq_true rfl) (k := ?_)
      exact h39 _ (by rw [← hok]; unfold a_two; rw [if_pos g])
  refine mj_enter in_18 (L := [.ref 1, .int p, .int b, .retAddr 0, .retAddr 0]) rfl ?_
  refine mj_b_rload_n (hE := fe_18_0) (hv := rfl) (k := ?_)
  refine mj_b_iload_n (hE := fe_18_1) (hv := rfl) (k := ?_)
  refine mj_b_iload_n (hE := fe_18_2) (hv := rfl) (k := ?_)
  refine mj_b_callR (hE := fe_18_3) (hi := in_14) (h1 := g14 _ _) (hc := mj_cok_s rfl) (ha := rfl) (hr := rfl) ?_
  refine mj_b_if1 (hE := fe_18_6) (kt := fun h6 => ?_) (kf := fun h6 => ?_)
  · simp only [mj_cnd, decide_eq_true_eq, decide_eq_false_iff_not, Bool.not_eq_true', Bool.not_eq_false', pz_0, Bool.not_eq_false, Bool.not_eq_true] at h6
    refine mj_b_iconst (hE := fe_18_23) (k := ?_)
    exact h24 false (by simp [h6])
  · simp only [mj_cnd, decide_eq_true_eq, decide_eq_false_iff_not, Bool.not_eq_true', Bool.not_eq_false', pz_0, Bool.not_eq_false, Bool.not_eq_true] at h6
    refine mj_b_iload_n (hE := fe_18_9) (hv := rfl) (k := ?_)
    refine mj_b_iconst (hE := fe_18_10) (k := ?_)
    refine mj_b_ldc (hE := fe_18_11) (k := ?_)
    refine mj_b_callR (hE := fe_18_13) (hi := in_17) (h1 := g17 _ _ _ _) (hc := mj_cok_s rfl) (ha := rfl) (hr := rfl) ?_
    refine mj_b_if1 (hE := fe_18_16) (kt := fun h16 => ?_) (kf := fun h16 => ?_)
    · simp only [mj_cnd, decide_eq_true_eq, decide_eq_false_iff_not, Bool.not_eq_true', Bool.not_eq_false', pz_0, Bool.not_eq_false, Bool.not_eq_true] at h16
      refine mj_b_iconst (hE := fe_18_23) (k := ?_)
      exact h24 false (by simp [h6, h16])
    · simp only [mj_cnd, decide_eq_true_eq, decide_eq_false_iff_not, Bool.not_eq_true', Bool.not_eq_false', pz_0, Bool.not_eq_false, Bool.not_eq_true] at h16
      refine mj_b_iconst (hE := fe_18_19) (k := ?_)
      refine mj_b_goto (hE := fe_18_20) (k := ?_)
      exact h24 true (by simp [h6, h16])
end RB
