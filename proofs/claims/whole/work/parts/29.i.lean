/-! ===== the class: the header takes a digit; head ===== -/
theorem i32_nlt_le {a b : Int32} (h : ¬ a < b) : b ≤ a := by
  rw [Int32.lt_iff_toInt_lt] at h
  rw [Int32.le_iff_toInt_le]
  omega
theorem i32_lt_nle {a b : Int32} (h : a < b) : ¬ b ≤ a := by
  rw [Int32.lt_iff_toInt_lt] at h
  rw [Int32.le_iff_toInt_le]
  omega
section HY
variable {L sn sx : Nat} {pn px : Nat → Nat} {S : ty_st} {H : ty_hd} {f w : Int32} {ms : List Int32} {I : Nat → Nat → Int32} {R : Nat → Nat → Option Nat}
set_option maxHeartbeats 1000000 in
/-- Header.afterDigit -/
theorem g11 (d : Int32) (h : hd_rep H I R) : mj_G pj_P 11 [.ref 72, .int d] (mz_SH L, I, R) (hx_post L I R H (hd_dig H d)) := by
  have hS := sh_72 L
  have hA := sh_73 L
  have d4 := h.2.2.2.2.2.1
  have e49 : ∀ (I1 : Nat → Nat → Int32) (nm dg : Int32), hd_rep (H.1, H.2.1, H.2.2.1, H.2.2.2.1, H.2.2.2.2.1, nm, dg) I1 R → fr_H I I1 → hd_dig H d = hd_dg2 H d nm dg → mj_T pj_P 11 49 [.ref 72, .int d] [] (mz_SH L, I1, R) (hx_post L I R H (hd_dig H d)) := by
    intro I1 nm dg hG hf he
    have q4 := hG.2.2.2.2.2.1
    have q6 := hG.2.2.2.2.2.2.2.1
    have q7 := hG.2.2.2.2.2.2.2.2
    rw [he]
    refine mj_b_rload_n (hE := fe_11_49) (hv := rfl) (k := ?_)
    refine mj_b_getV (hE := fe_11_50) (hM := by assumption) (hv := by assumption) (k := ?_)
    refine mj_b_iconst (hE := fe_11_53) (k := ?_)
    refine mj_b_if2 (hE := fe_11_54) (kt := fun g => ?_) (kf := fun g => ?_)
    · simp only [mj_cnd, decide_eq_true_eq] at g
      have g' := i32_lt_nle g
      have hG2 := (hG.f6 (nm * 10 + d)).f7 (dg + 1)
      have hf2 : fr_H I (mj_u (mj_u I1 72 6 (nm * 10 + d)) 72 7 (dg + 1)) := (hf.trans (fr_H.u (by omega) (by omega))).trans (fr_H.u (by omega) (by omega))
      have r4 := hG2.2.2.2.2.2.1
      have r6 := hG2.2.2.2.2.2.2.2.1
      have r1 := hG2.2.1.1
      have r11 := hG2.2.1.2
      have ro := hG2.1
      refine mj_b_rload_n (hE := fe_11_60) (hv := rfl) (k := ?_)
      refine mj_b_rload_n (hE := fe_11_61) (hv := rfl) (k := ?_)
      refine mj_b_getV (hE := fe_11_62) (hM := by assumption) (hv := by assumption) (k := ?_)
      refine mj_b_bipush (hE := fe_11_65) (k := ?_)
      refine mj_b_imul (hE := fe_11_67) (k := ?_)
      refine mj_b_iload_n (hE := fe_11_68) (hv := rfl) (k := ?_)
      refine mj_b_iadd (hE := fe_11_69) (k := ?_)
      refine mj_b_putI (hE := fe_11_70) (hw := Or.inl rfl) (hM := by assumption) (k := ?_)
      refine mj_b_rload_n (hE := fe_11_73) (hv := rfl) (k := ?_)
      refine mj_b_dup (hE := fe_11_74) (hv := rfl) (k := ?_)
      refine mj_b_getV (hE := fe_11_75) (v := dg) (hM := hS) (hv := by simp [mj_u, q7]) (k := ?_)
      refine mj_b_iconst (hE := fe_11_78) (k := ?_)
      refine mj_b_iadd (hE := fe_11_79) (k := ?_)
      refine mj_b_putI (hE := fe_11_80) (hw := Or.inl rfl) (hM := by assumption) (k := ?_)
      refine mj_b_rload_n (hE := fe_11_83) (hv := rfl) (k := ?_)
      refine mj_b_getV (hE := fe_11_84) (hM := by assumption) (hv := by assumption) (k := ?_)
      refine mj_b_iconst (hE := fe_11_87) (k := ?_)
      refine mj_b_if2 (hE := fe_11_88) (kt := fun m => ?_) (kf := fun m => ?_)
      · simp only [mj_cnd, decide_eq_true_eq] at m
        refine mj_b_iconst (hE := fe_11_99) (k := ?_)
        refine mj_b_retI (hE := fe_11_100) (hi := in_11) ?_
        unfold hd_dg2
        rw [if_neg g', if_pos (Or.inl m)]
        exact ⟨_, rfl, hG2, hf2⟩
      · simp only [mj_cnd, decide_eq_false_iff_not] at m
        refine mj_b_rload_n (hE := fe_11_91) (hv := rfl) (k := ?_)
        refine mj_b_getV (hE := fe_11_92) (hM := by assumption) (hv := by assumption) (k := ?_)
        refine mj_b_iconst (hE := fe_11_95) (k := ?_)
        refine mj_b_if2 (hE := fe_11_96) (kt := fun m2 => ?_) (kf := fun m2 => ?_)
        · simp only [mj_cnd, Bool.not_eq_true', decide_eq_false_iff_not] at m2
          have hfin : ∀ I3, hd_rep (cd_lst (nm * 10 + d) H.1, H.2.1, H.2.2.1, H.2.2.2.1, H.2.2.2.2.1, nm * 10 + d, dg + 1) I3 R → fr_H I I3 → mj_T pj_P 11 126 [.ref 72, .int d] [] (mz_SH L, I3, R) (hx_post L I R H (hd_dg2 H d nm dg)) := by
            intro I3 h3 hf3
            refine mj_b_bipush (hE := fe_11_126) (k := ?_)
            refine mj_b_retI (hE := fe_11_128) (hi := in_11) ?_
            unfold hd_dg2
            rw [if_neg g', if_neg (by simp [m, m2])]
            exact ⟨_, rfl, h3, hf3⟩
          refine mj_b_rload_n (hE := fe_11_101) (hv := rfl) (k := ?_)
          refine mj_b_getV (hE := fe_11_102) (hM := by assumption) (hv := by assumption) (k := ?_)
          refine mj_b_if1 (hE := fe_11_105) (kt := fun q => ?_) (kf := fun q => ?_)
          · simp only [mj_cnd, decide_eq_true_eq] at q
            have hz : H.1.length = 0 := by
              have h12 := h.2.1.2
              exact (nI_le0 (by omega)).mp q
            refine hfin _ ?_ hf2
            rw [List.length_eq_zero_iff.mp hz] at hG2 ⊢
            exact hG2
          · simp only [mj_cnd, decide_eq_false_iff_not] at q
            have h12 := h.2.1.2
            have hz : H.1.length ≠ 0 := fun e => q ((nI_le0 (by omega)).mpr e)
            obtain ⟨m0, hm0⟩ : ∃ m0, H.1.length = m0 + 1 := ⟨H.1.length - 1, by omega⟩
            have hq := ro.2 m0 (by omega)
            have hC := sh_C L (show m0 < 12 by omega)
            have e1 : nI H.1.length - 1 = nI m0 := by rw [hm0, nI_succ, Int32.add_sub_cancel]
            have ro1 := ro.1
            refine mj_b_rload_n (hE := fe_11_108) (hv := rfl) (k := ?_)
            refine mj_b_getQ (hE := fe_11_109) (hM := by assumption) (hv := by assumption) (k := ?_)
            refine mj_b_rload_n (hE := fe_11_112) (hv := rfl) (k := ?_)
            refine mj_b_getV (hE := fe_11_113) (hM := by assumption) (hv := by assumption) (k := ?_)
            refine mj_b_iconst (hE := fe_11_116) (k := ?_)
            refine mj_b_isub (hE := fe_11_117) (k := ?_)
            refine mj_b_aaldQ (hE := fe_11_118) (hM := hA) (ht := by decide) (hj := e1) (hc := by omega) (hn := by decide) (hv := hq) (k := ?_)
            refine mj_b_rload_n (hE := fe_11_119) (hv := rfl) (k := ?_)
            refine mj_b_getV (hE := fe_11_120) (hM := by assumption) (hv := by assumption) (k := ?_)
            refine mj_b_putI (hE := fe_11_123) (hw := Or.inl rfl) (hM := hC) (k := ?_)
            refine hfin _ (hG2.lst (H := (H.1, H.2.1, H.2.2.1, H.2.2.2.1, H.2.2.2.2.1, nm * 10 + d, dg + 1)) hm0 _) (hf2.trans (fr_H.u (by omega) (by omega)))
        · simp only [mj_cnd, Bool.not_eq_false', decide_eq_true_eq] at m2
          refine mj_b_iconst (hE := fe_11_99) (k := ?_)
          refine mj_b_retI (hE := fe_11_100) (hi := in_11) ?_
          unfold hd_dg2
          rw [if_neg g', if_pos (Or.inr m2)]
          exact ⟨_, rfl, hG2, hf2⟩
    · simp only [mj_cnd, decide_eq_false_iff_not] at g
      refine mj_b_bipush (hE := fe_11_57) (k := ?_)
      refine mj_b_retI (hE := fe_11_59) (hi := in_11) ?_
      unfold hd_dg2
      rw [if_pos (i32_nlt_le g)]
      exact ⟨_, rfl, hG, hf⟩
  have e16 : (H.2.2.2.1 = 1 ∨ H.2.2.2.1 = 5) → mj_T pj_P 11 16 [.ref 72, .int d] [] (mz_SH L, I, R) (hx_post L I R H (hd_dig H d)) := by
    intro hst
    refine mj_b_rload_n (hE := fe_11_16) (hv := rfl) (k := ?_)
    refine mj_b_iconst (hE := fe_11_17) (k := ?_)
    refine mj_b_putI (hE := fe_11_18) (hw := Or.inl rfl) (hM := by assumption) (k := ?_)
    refine mj_b_rload_n (hE := fe_11_21) (hv := rfl) (k := ?_)
    refine mj_b_iconst (hE := fe_11_22) (k := ?_)
    refine mj_b_putI (hE := fe_11_23) (hw := Or.inl rfl) (hM := by assumption) (k := ?_)
    refine mj_b_goto (hE := fe_11_26) (k := ?_)
    exact e49 _ 0 0 ((h.f6 0).f7 0) ((fr_H.u (by omega) (by omega)).trans (fr_H.u (by omega) (by omega))) (by unfold hd_dig; rw [if_pos hst])
  refine mj_enter in_11 (L := [.ref 72, .int d]) rfl ?_
  refine mj_b_rload_n (hE := fe_11_0) (hv := rfl) (k := ?_)
  refine mj_b_getV (hE := fe_11_1) (hM := by assumption) (hv := by assumption) (k := ?_)
  refine mj_b_iconst (hE := fe_11_4) (k := ?_)
  refine mj_b_if2 (hE := fe_11_5) (kt := fun g => ?_) (kf := fun g => ?_)
  · simp only [mj_cnd, decide_eq_true_eq] at g
    exact e16 (Or.inl g)
  · simp only [mj_cnd, decide_eq_false_iff_not] at g
    refine mj_b_rload_n (hE := fe_11_8) (hv := rfl) (k := ?_)
    refine mj_b_getV (hE := fe_11_9) (hM := by assumption) (hv := by assumption) (k := ?_)
    refine mj_b_iconst (hE := fe_11_12) (k := ?_)
    refine mj_b_if2 (hE := fe_11_13) (kt := fun q => ?_) (kf := fun q => ?_)
    · simp only [mj_cnd, Bool.not_eq_true', decide_eq_false_iff_not] at q
      have hn : ¬ (H.2.2.2.1 = 1 ∨ H.2.2.2.1 = 5) := by simp [g, q]
      refine mj_b_rload_n (hE := fe_11_29) (hv := rfl) (k := ?_)
      refine mj_b_getV (hE := fe_11_30) (hM := by assumption) (hv := by assumption) (k := ?_)
      refine mj_b_iconst (hE := fe_11_33) (k := ?_)
      refine mj_b_if2 (hE := fe_11_34) (kt := fun m => ?_) (kf := fun m => ?_)
      · simp only [mj_cnd, decide_eq_true_eq] at m
        exact e49 I _ _ h fr_H.refl (by unfold hd_dig; rw [if_neg hn, if_pos (Or.inl m)])
      · simp only [mj_cnd, decide_eq_false_iff_not] at m
        refine mj_b_rload_n (hE := fe_11_37) (hv := rfl) (k := ?_)
        refine mj_b_getV (hE := fe_11_38) (hM := by assumption) (hv := by assumption) (k := ?_)
        refine mj_b_bipush (hE := fe_11_41) (k := ?_)
        refine mj_b_if2 (hE := fe_11_43) (kt := fun m2 => ?_) (kf := fun m2 => ?_)
        · simp only [mj_cnd, decide_eq_true_eq] at m2
          exact e49 I _ _ h fr_H.refl (by unfold hd_dig; rw [if_neg hn, if_pos (Or.inr m2)])
        · simp only [mj_cnd, decide_eq_false_iff_not] at m2
          refine mj_b_bipush (hE := fe_11_46) (k := ?_)
          refine mj_b_retI (hE := fe_11_48) (hi := in_11) ?_
          have : hd_dig H d = hd_st H 8 := by unfold hd_dig; rw [if_neg hn, if_neg (by simp [m, m2])]
          rw [this]
          exact hx_same h 8
    · simp only [mj_cnd, Bool.not_eq_false', decide_eq_true_eq] at q
      exact e16 (Or.inr q)
theorem sw_10 {a : Int32} {b : Int} (h : ¬ a = Int32.ofInt b) (hb : (Int32.ofInt b).toInt = b) : ¬ a.toInt = b := by
  intro e
  exact h (Int32.toInt_inj.mp (by rw [hb]; exact e))
set_option maxHeartbeats 1000000 in
/-- Header.stateAfter -/
theorem g10 (c : Int32) (h : hd_rep H I R) : mj_G pj_P 10 [.ref 72, .int c] (mz_SH L, I, R) (hx_post L I R H (hd_aft H c)) := by
  have hS := sh_72 L
  have d4 := h.2.2.2.2.2.1
  have pass : ∀ {pc nx x y : Nat} {i : Instr} {z : Int32} {tb : List (Int × Nat)} (G : ty_hd), pj_P.1 10 pc = some (i, nx, x, y, 8, z, tb) → hd_aft H c = G → ∀ v M1, hx_post L I R H G (v, M1) → mj_T pj_P 10 pc [.ref 72, .int c] (v.toList ++ []) M1 (hx_post L I R H (hd_aft H c)) := by
    intro pc nx x y i z tb G hE he v M1 hp
    have hp0 := hp
    obtain ⟨I', hM, -⟩ := hp
    cases hM
    rw [he]
    exact mj_b_retI (hE := hE) (hi := in_10) hp0
  refine mj_enter in_10 (L := [.ref 72, .int c]) rfl ?_
  refine mj_b_iload_n (hE := fe_10_0) (hv := rfl) (k := ?_)
  refine mj_b_callR (hE := fe_10_1) (hi := in_9) (h1 := g9 _ _) (hc := mj_cok_s rfl) (ha := rfl) (hr := rfl) ?_
  refine mj_b_if1 (hE := fe_10_4) (kt := fun g => ?_) (kf := fun g => ?_)
  · simp only [mj_cnd, decide_eq_true_eq, pz_0] at g
    have n1 : hd_aft H c = if c = 47 then hd_sla H else if c = 40 then hd_opn H else if c = 41 then hd_st H (if H.2.2.2.1 = 6 then 7 else 8) else if c = 33 then hd_st H (if H.2.2.2.1 = 3 ∨ H.2.2.2.1 = 6 then 4 else 8) else hd_let H (decide (c = 116)) := by
      unfold hd_aft
      rw [if_neg (by rw [g]; decide)]
    refine mj_b_iload_n (hE := fe_10_16) (hv := rfl) (k := ?_)
    by_cases c47 : c = 47
    · subst c47
      refine mj_b_sw (hE := fe_10_17) (tg := 60) (ht := by decide) (k := ?_)
      refine mj_b_rload_n (hE := fe_10_60) (hv := rfl) (k := ?_)
      refine mj_b_call (hE := fe_10_61) (hi := in_12) (h1 := g12 h) (hc := mj_cok_v rfl rfl hS) (ha := rfl) (hr := rfl) ?_
      exact pass _ fe_10_64 (by rw [n1, if_pos rfl])
    · by_cases c40 : c = 40
      · subst c40
        refine mj_b_sw (hE := fe_10_17) (tg := 65) (ht := by decide) (k := ?_)
        refine mj_b_rload_n (hE := fe_10_65) (hv := rfl) (k := ?_)
        refine mj_b_call (hE := fe_10_66) (hi := in_13) (h1 := g13 h) (hc := mj_cok_v rfl rfl hS) (ha := rfl) (hr := rfl) ?_
        exact pass _ fe_10_69 (by rw [n1, if_neg c47, if_pos rfl])
      · by_cases c41 : c = 41
        · subst c41
          refine mj_b_sw (hE := fe_10_17) (tg := 70) (ht := by decide) (k := ?_)
          rw [n1, if_neg c47, if_neg c40, if_pos rfl]
          refine mj_b_rload_n (hE := fe_10_70) (hv := rfl) (k := ?_)
          refine mj_b_getV (hE := fe_10_71) (hM := by assumption) (hv := by assumption) (k := ?_)
          refine mj_b_bipush (hE := fe_10_74) (k := ?_)
          refine mj_b_if2 (hE := fe_10_76) (kt := fun q => ?_) (kf := fun q => ?_)
          · simp only [mj_cnd, Bool.not_eq_true', decide_eq_false_iff_not] at q
            refine mj_b_bipush (hE := fe_10_84) (k := ?_)
            rw [if_neg q]
            exact mj_b_retI (hE := fe_10_86) (hi := in_10) (hx_same h 8)
          · simp only [mj_cnd, Bool.not_eq_false', decide_eq_true_eq] at q
            refine mj_b_bipush (hE := fe_10_79) (k := ?_)
            refine mj_b_goto (hE := fe_10_81) (k := ?_)
            rw [if_pos q]
            exact mj_b_retI (hE := fe_10_86) (hi := in_10) (hx_same h 7)
        · by_cases c33 : c = 33
          · subst c33
            refine mj_b_sw (hE := fe_10_17) (tg := 87) (ht := by decide) (k := ?_)
            rw [n1, if_neg c47, if_neg c40, if_neg c41, if_pos rfl]
            have e4 : (H.2.2.2.1 = 3 ∨ H.2.2.2.1 = 6) → mj_T pj_P 10 104 [.ref 72, .int 33] [] (mz_SH L, I, R) (hx_post L I R H (hd_st H (if H.2.2.2.1 = 3 ∨ H.2.2.2.1 = 6 then 4 else 8))) := by
              intro hst
              refine mj_b_iconst (hE := fe_10_104) (k := ?_)
              refine mj_b_goto (hE := fe_10_105) (k := ?_)
              rw [if_pos hst]
              exact mj_b_retI (hE := fe_10_110) (hi := in_10) (hx_same h 4)
            refine mj_b_rload_n (hE := fe_10_87) (hv := rfl) (k := ?_)
            refine mj_b_getV (hE := fe_10_88) (hM := by assumption) (hv := by assumption) (k := ?_)
            refine mj_b_iconst (hE := fe_10_91) (k := ?_)
            refine mj_b_if2 (hE := fe_10_92) (kt := fun q => ?_) (kf := fun q => ?_)
            · simp only [mj_cnd, decide_eq_true_eq] at q
              exact e4 (Or.inl q)
            · simp only [mj_cnd, decide_eq_false_iff_not] at q
              refine mj_b_rload_n (hE := fe_10_95) (hv := rfl) (k := ?_)
              refine mj_b_getV (hE := fe_10_96) (hM := by assumption) (hv := by assumption) (k := ?_)
              refine mj_b_bipush (hE := fe_10_99) (k := ?_)
              refine mj_b_if2 (hE := fe_10_101) (kt := fun m => ?_) (kf := fun m => ?_)
              · simp only [mj_cnd, Bool.not_eq_true', decide_eq_false_iff_not] at m
                refine mj_b_bipush (hE := fe_10_108) (k := ?_)
                rw [if_neg (by simp [q, m])]
                exact mj_b_retI (hE := fe_10_110) (hi := in_10) (hx_same h 8)
              · simp only [mj_cnd, Bool.not_eq_false', decide_eq_true_eq] at m
                exact e4 (Or.inr m)
          · have n2 : hd_aft H c = hd_let H (decide (c = 116)) := by rw [n1, if_neg c47, if_neg c40, if_neg c41, if_neg c33]
            have tg : (([(33, 87), (40, 65), (41, 70), (47, 60)] : List (Int × Nat)).lookup c.toInt).getD 111 = 111 := by
              have m1 : ¬ c.toInt = 33 := sw_10 (b := 33) c33 rfl
              have m2 : ¬ c.toInt = 40 := sw_10 (b := 40) c40 rfl
              have m3 : ¬ c.toInt = 41 := sw_10 (b := 41) c41 rfl
              have m4 : ¬ c.toInt = 47 := sw_10 (b := 47) c47 rfl
              have b1 : (c.toInt == 33) = false := beq_eq_false_iff_ne.mpr m1
              have b2 : (c.toInt == 40) = false := beq_eq_false_iff_ne.mpr m2
              have b3 : (c.toInt == 41) = false := beq_eq_false_iff_ne.mpr m3
              have b4 : (c.toInt == 47) = false := beq_eq_false_iff_ne.mpr m4
              simp only [List.lookup, b1, b2, b3, b4, Option.getD]
            refine mj_b_sw (hE := fe_10_17) (tg := 111) (ht := tg) (k := ?_)
            have e123 : ∀ t : Bool, t = decide (c = 116) → mj_T pj_P 10 123 [.ref 72, .int c] [.int (pz t), .ref 72] (mz_SH L, I, R) (hx_post L I R H (hd_aft H c)) := by
              intro t ht
              refine mj_b_call (hE := fe_10_123) (hi := in_15) (h1 := g15 t h) (hc := mj_cok_v rfl rfl hS) (ha := rfl) (hr := rfl) ?_
              exact pass _ fe_10_126 (by rw [n2, ht])
            refine mj_b_rload_n (hE := fe_10_111) (hv := rfl) (k := ?_)
            refine mj_b_iload_n (hE := fe_10_112) (hv := rfl) (k := ?_)
            refine mj_b_bipush (hE := fe_10_113) (k := ?_)
            refine mj_b_if2 (hE := fe_10_115) (kt := fun q => ?_) (kf := fun q => ?_)
            · simp only [mj_cnd, Bool.not_eq_true', decide_eq_false_iff_not] at q
              refine mj_b_iconst (hE := fe_10_122) (k := ?_)
              exact e123 false (by simp [q])
            · simp only [mj_cnd, Bool.not_eq_false', decide_eq_true_eq] at q
              refine mj_b_iconst (hE := fe_10_118) (k := ?_)
              refine mj_b_goto (hE := fe_10_119) (k := ?_)
              exact e123 true (by simp [q])
  · simp only [mj_cnd, decide_eq_false_iff_not, pz_0, Bool.not_eq_false] at g
    refine mj_b_rload_n (hE := fe_10_7) (hv := rfl) (k := ?_)
    refine mj_b_iload_n (hE := fe_10_8) (hv := rfl) (k := ?_)
    refine mj_b_bipush (hE := fe_10_9) (k := ?_)
    refine mj_b_isub (hE := fe_10_11) (k := ?_)
    refine mj_b_call (hE := fe_10_12) (hi := in_11) (h1 := g11 (c - 48) h) (hc := mj_cok_v rfl rfl hS) (ha := rfl) (hr := rfl) ?_
    exact pass _ fe_10_15 (by unfold hd_aft; rw [if_pos g])
set_option maxHeartbeats 1000000 in
/-- Header.add -/
theorem g7 (c : Int32) (h : hd_rep H I R) : mj_G pj_P 7 [.ref 72, .int c] (mz_SH L, I, R) (fun r => ∃ I', r = (some (.int (pz (hd_add H c).1)), (mz_SH L, I', R)) ∧ hd_rep (hd_add H c).2 I' R ∧ fr_H I I') := by
  have hS := sh_72 L
  obtain ⟨d2, d3⟩ := h.2.2.2.2.1
  have no : ¬ (H.2.2.1 < 24 ∧ pf_named c = true) → mj_T pj_P 7 16 [.ref 72, .int c] [] (mz_SH L, I, R) (fun r => ∃ I', r = (some (.int (pz (hd_add H c).1)), (mz_SH L, I', R)) ∧ hd_rep (hd_add H c).2 I' R ∧ fr_H I I') := by
    intro hn
    refine mj_b_iconst (hE := fe_7_16) (k := ?_)
    refine mj_b_retZ (hE := fe_7_17) (hi := in_7) (Or.inl rfl) ?_
    unfold hd_add
    rw [if_neg hn]
    exact ⟨I, rfl, h, fr_H.refl⟩
  refine mj_enter in_7 (L := [.ref 72, .int c]) rfl ?_
  refine mj_b_rload_n (hE := fe_7_0) (hv := rfl) (k := ?_)
  refine mj_b_getV (hE := fe_7_1) (hM := by assumption) (hv := by assumption) (k := ?_)
  refine mj_b_bipush (hE := fe_7_4) (k := ?_)
  refine mj_b_if2 (hE := fe_7_6) (kt := fun g => ?_) (kf := fun g => ?_)
  · simp only [mj_cnd, decide_eq_true_eq] at g
    refine no ?_
    rintro ⟨h1, -⟩
    rw [show (24 : Int32) = nI 24 from rfl, nI_le_iff (by omega) (by omega)] at g
    omega
  · simp only [mj_cnd, decide_eq_false_iff_not] at g
    have hlt : H.2.2.1 < 24 := by
      rw [show (24 : Int32) = nI 24 from rfl, nI_le_iff (by omega) (by omega)] at g
      omega
    refine mj_b_iload_n (hE := fe_7_9) (hv := rfl) (k := ?_)
    refine mj_b_callR (hE := fe_7_10) (hi := in_8) (h1 := g8 _ _) (hc := mj_cok_s rfl) (ha := rfl) (hr := rfl) ?_
    refine mj_b_if1 (hE := fe_7_13) (kt := fun q => ?_) (kf := fun q => ?_)
    · simp only [mj_cnd, Bool.not_eq_true', decide_eq_false_iff_not, pz_0, Bool.not_eq_false] at q
      refine mj_b_rload_n (hE := fe_7_18) (hv := rfl) (k := ?_)
      refine mj_b_dup (hE := fe_7_19) (hv := rfl) (k := ?_)
      refine mj_b_getV (hE := fe_7_20) (hM := by assumption) (hv := by assumption) (k := ?_)
      refine mj_b_iconst (hE := fe_7_23) (k := ?_)
      refine mj_b_iadd (hE := fe_7_24) (k := ?_)
      refine mj_b_putI (hE := fe_7_25) (hw := Or.inl rfl) (hM := by assumption) (k := ?_)
      refine mj_b_rload_n (hE := fe_7_28) (hv := rfl) (k := ?_)
      refine mj_b_rload_n (hE := fe_7_29) (hv := rfl) (k := ?_)
      refine mj_b_iload_n (hE := fe_7_30) (hv := rfl) (k := ?_)
      refine (show mj_T pj_P 7 31 [.ref 72, .int c] [.int c, .ref 72, .ref 72] (mz_SH L, mj_u I 72 3 (nI H.2.2.1 + 1), R) _ from ?_)
      rw [← nI_succ]
      refine mj_b_call (hE := fe_7_31) (hi := in_10) (h1 := g10 c (h.f3 (n := H.2.2.1 + 1) (by omega))) (hc := mj_cok_v rfl rfl hS) (ha := rfl) (hr := rfl) ?_
      rintro v M1 ⟨I', hM, hr, hf⟩
      cases hM
      refine (show mj_T pj_P 7 34 [.ref 72, .int c] [.int _, .ref 72] (mz_SH L, I', R) _ from ?_)
      refine mj_b_putI (hE := fe_7_34) (hw := Or.inl rfl) (hM := by assumption) (k := ?_)
      refine mj_b_iconst (hE := fe_7_37) (k := ?_)
      refine mj_b_retZ (hE := fe_7_38) (hi := in_7) (Or.inr rfl) ?_
      unfold hd_add
      rw [if_pos ⟨hlt, q⟩]
      refine ⟨_, rfl, ?_, ((fr_H.u (by omega) (by omega)).trans hf).trans (fr_H.u (by omega) (by omega))⟩
      exact hr.f4 _
    · simp only [mj_cnd, Bool.not_eq_false', decide_eq_true_eq, pz_0] at q
      exact no (fun hh => by rw [q] at hh; exact absurd hh.2 (by decide))
/-- LockedTree.head -/
theorem g6 (c : Int32) (h : c_all sn sx pn px S H f w ms I R) : mj_G pj_P 6 [.ref 1, .int c] (mz_SH L, I, R) (fun r => ∃ I', r = (some (.int (pz (hd_add H c).1)), (mz_SH L, I', R)) ∧ c_all sn sx pn px S (hd_add H c).2 f w ms I' R ∧ fr_C I I') := by
  have h1 := sh_1 L
  have hS := sh_72 L
  obtain ⟨ht, hsx, hs, hok, hh, hf, hw, ⟨m1, m2⟩, m3⟩ := h
  have t3 := ht.2.2.1
  refine mj_enter in_6 (L := [.ref 1, .int c]) rfl ?_
  refine mj_b_rload_n (hE := fe_6_0) (hv := rfl) (k := ?_)
  refine mj_b_getQ (hE := fe_6_1) (hM := by assumption) (hv := by assumption) (k := ?_)
  refine mj_b_iload_n (hE := fe_6_4) (hv := rfl) (k := ?_)
  refine mj_b_call (hE := fe_6_5) (hi := in_7) (h1 := g7 c hh) (hc := mj_cok_v rfl rfl hS) (ha := rfl) (hr := rfl) ?_
  rintro v M1 ⟨I', hM, hr, hfr⟩
  cases hM
  refine mj_b_retZ (hE := fe_6_8) (hi := in_6) (pz_01 _) ⟨I', rfl, ⟨ht, hsx, ?_, hok, hr, ?_, ?_, ⟨?_, m2⟩, ?_⟩, ?_⟩
  · have hb := hs.1
    obtain ⟨-, hok2, ⟨n1, n2⟩, ⟨l1, l2⟩, hro, hk, k1, k2, k3⟩ := hs
    refine ⟨hb, hok2, ⟨?_, n2⟩, ⟨?_, l2⟩, ?_, ?_, ?_, ?_, ?_⟩
    · rw [hfr _ _ (by omega)]; exact n1
    · rw [hfr _ _ (by omega)]; exact l1
    · intro i r hi
      have hl := (List.getElem?_eq_some_iff.mp hi).1
      have := (hok2.2.2.1 i (by omega)).2
      rw [rw_at_eq (I := I)]
      · exact hro i r hi
      · intro k; exact hfr _ _ (by unfold cs_row; omega)
      · intro k; exact hfr _ _ (by unfold cs_row; omega)
    · intro i l hi
      have hl := (List.getElem?_eq_some_iff.mp hi).1
      exact lk_at_eq (fun k => hfr _ _ (by omega)) (hk i l hi)
    · rw [hfr _ _ (by omega)]; exact k1
    · rw [hfr _ _ (by omega)]; exact k2
    · rw [hfr _ _ (by omega)]; exact k3
  · rw [hfr _ _ (by omega)]; exact hf
  · rw [hfr _ _ (by omega)]; exact hw
  · rw [hfr _ _ (by omega)]; exact m1
  · intro i x hi; rw [hfr _ _ (by omega)]; exact m3 i x hi
  · intro x j hx; exact hfr _ _ (by omega)
end HY
