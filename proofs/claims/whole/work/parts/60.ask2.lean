/-! ===== both sides: covering, lockOf, multi, listing, fail, head ===== -/
section QB
variable {L nl : Nat} {I : Nat → Nat → Int32} {R : Nat → Nat → Option Nat} {wh lo : Nat → Bool}
set_option maxHeartbeats 2000000 in
theorem l134q {p k : Int32} (hm : mm_ok R) (hk : (I 98 1 = nI nl ∧ nl ≤ 6) ∧ ∀ l, l < nl → I 96 l = pz (wh l)) :
    ∀ (m i : Nat) (c : Int32), i + m = nl → mj_T pj_P 134 19 [.ref 87, .int p, .int k, .int c, .int (nI i)] [] (mz_SH L, I, R) (fun s => s = (some (.int (c_cvk (mm_cov I wh p) (fun i => I 93 i) k i m c)), (mz_SH L, I, R))) := by
  have hm0 := hm
  obtain ⟨q0, q1, q2, q3, q4, q5, q6, q7, q8, q9, q10, q11, q16, q21⟩ := hm
  obtain ⟨⟨hl1, hl2⟩, hwh⟩ := hk
  have h87 := sm_87 L
  have h93 := sm_93 L
  have h98 := sm_98 L
  intro m
  induction m with
  | zero =>
    intro i c hi
    have hin : i = nl := by omega
    subst hin
    refine mj_b_iload (hE := fe_134_19) (hv := rfl) (k := ?_)
    refine mj_b_rload_n (hE := fe_134_21) (hv := rfl) (k := ?_)
    refine mj_b_getQ (hE := fe_134_22) (hM := by assumption) (hv := by assumption) (k := ?_)
    refine mj_b_iconst (hE := fe_134_25) (k := ?_)
    refine mj_b_ialdN (hE := fe_134_26) (hM := h98) (ht := Or.inr rfl) (hj := show (1 : Int32) = nI 1 from rfl) (hc := by decide) (hn := by decide) (hv := hl1) (k := ?_)
    refine mj_b_if2 (hE := fe_134_27) (kt := fun h => ?_) (kf := fun h => ?_)
    · refine mj_b_iload_n (hE := fe_134_62) (hv := rfl) (k := ?_)
      refine mj_b_iconst (hE := fe_134_63) (k := ?_)
      refine mj_b_if2 (hE := fe_134_64) (kt := fun h64 => ?_) (kf := fun h64 => ?_)
      · simp only [mj_cnd, decide_eq_true_eq, decide_eq_false_iff_not, Bool.not_eq_true', Bool.not_eq_false', pz_0, Bool.not_eq_false, Bool.not_eq_true] at h64
        refine mj_b_iconst (hE := fe_134_71) (k := ?_)
        exact mj_b_retI (hE := fe_134_72) (hi := in_134) (by first | (simp [c_cvk, pz, h64]; done) | (simp_all [c_cvk, pz]; done) | rfl)
      · simp only [mj_cnd, decide_eq_true_eq, decide_eq_false_iff_not, Bool.not_eq_true', Bool.not_eq_false', pz_0, Bool.not_eq_false, Bool.not_eq_true] at h64
        refine mj_b_iload_n (hE := fe_134_67) (hv := rfl) (k := ?_)
        refine mj_b_goto (hE := fe_134_68) (k := ?_)
        exact mj_b_retI (hE := fe_134_72) (hi := in_134) (by first | (simp [c_cvk, pz, h64]; done) | (simp_all [c_cvk, pz]; done) | rfl)
    · simp [mj_cnd] at h
  | succ m ih =>
    intro i c hi
    have hw1 := hwh i (by omega)
    have hnx : ∀ Q c, mj_T pj_P 134 19 [.ref 87, .int p, .int k, .int c, .int (nI (i + 1))] [] (mz_SH L, I, R) Q → mj_T pj_P 134 56 [.ref 87, .int p, .int k, .int c, .int (nI i)] [] (mz_SH L, I, R) Q := by
      intro Q c hQ
      refine mj_b_iinc (hE := fe_134_56) (hv := rfl) (k := ?_)
      refine mj_b_goto (hE := fe_134_59) (k := ?_)
      exact (show mj_T pj_P 134 19 [.ref 87, .int p, .int k, .int c, .int (nI i + 1)] [] (mz_SH L, I, R) Q from (nI_succ i) ▸ hQ)
    refine mj_b_iload (hE := fe_134_19) (hv := rfl) (k := ?_)
    refine mj_b_rload_n (hE := fe_134_21) (hv := rfl) (k := ?_)
    refine mj_b_getQ (hE := fe_134_22) (hM := by assumption) (hv := by assumption) (k := ?_)
    refine mj_b_iconst (hE := fe_134_25) (k := ?_)
    refine mj_b_ialdN (hE := fe_134_26) (hM := h98) (ht := Or.inr rfl) (hj := show (1 : Int32) = nI 1 from rfl) (hc := by decide) (hn := by decide) (hv := hl1) (k := ?_)
    refine mj_b_if2 (hE := fe_134_27) (kt := fun h => ?_) (kf := fun h => ?_)
    · simp only [mj_cnd, decide_eq_true_eq] at h
      exact absurd h (nI_ge (by omega) (by omega))
    · refine mj_b_rload_n (hE := fe_134_30) (hv := rfl) (k := ?_)
      refine mj_b_iload (hE := fe_134_31) (hv := rfl) (k := ?_)
      refine mj_b_iload_n (hE := fe_134_33) (hv := rfl) (k := ?_)
      refine mj_b_callR (hE := fe_134_34) (hi := in_99) (h1 := g99 _ hm0 (by omega) hw1) (hc := mj_cok_v rfl rfl (by assumption)) (ha := rfl) (hr := rfl) ?_
      refine mj_b_if1 (hE := fe_134_37) (kt := fun h37 => ?_) (kf := fun h37 => ?_)
      · simp only [mj_cnd, decide_eq_true_eq, decide_eq_false_iff_not, Bool.not_eq_true', Bool.not_eq_false', pz_0, Bool.not_eq_false, Bool.not_eq_true] at h37
        exact hnx _ _ ((ih (i + 1) _ (by omega)).mono (fun s hs => by rw [hs]; simp [c_cvk, h37]))
      · simp only [mj_cnd, decide_eq_true_eq, decide_eq_false_iff_not, Bool.not_eq_true', Bool.not_eq_false', pz_0, Bool.not_eq_false, Bool.not_eq_true] at h37
        refine mj_b_iload_n (hE := fe_134_40) (hv := rfl) (k := ?_)
        refine mj_b_iload_n (hE := fe_134_41) (hv := rfl) (k := ?_)
        refine mj_b_if2 (hE := fe_134_42) (kt := fun h42 => ?_) (kf := fun h42 => ?_)
        · simp only [mj_cnd, decide_eq_true_eq, decide_eq_false_iff_not, Bool.not_eq_true', Bool.not_eq_false', pz_0, Bool.not_eq_false, Bool.not_eq_true] at h42
          refine mj_b_iinc (hE := fe_134_53) (hv := rfl) (k := ?_)
          exact hnx _ _ ((ih (i + 1) _ (by omega)).mono (fun s hs => by rw [hs]; simp [c_cvk, h37, h42]))
        · simp only [mj_cnd, decide_eq_true_eq, decide_eq_false_iff_not, Bool.not_eq_true', Bool.not_eq_false', pz_0, Bool.not_eq_false, Bool.not_eq_true] at h42
          refine mj_b_rload_n (hE := fe_134_45) (hv := rfl) (k := ?_)
          refine mj_b_getQ (hE := fe_134_46) (hM := by assumption) (hv := by assumption) (k := ?_)
          refine mj_b_iload (hE := fe_134_49) (hv := rfl) (k := ?_)
          refine mj_b_ialdN (hE := fe_134_51) (hM := by assumption) (ht := Or.inr rfl) (hj := rfl) (hc := by omega) (hn := by decide) (hv := rfl) (k := ?_)
          exact mj_b_retI (hE := fe_134_52) (hi := in_134) (by first | (simp [c_cvk, pz, h37, h42]; done) | (simp_all [c_cvk, pz]; done) | rfl)
/-- LockedTreeModel.covering -/
theorem g134q (p k : Int32) (hm : mm_ok R) (hk : (I 98 1 = nI nl ∧ nl ≤ 6) ∧ ∀ l, l < nl → I 96 l = pz (wh l)) :
    mj_G pj_P 134 [.ref 87, .int p, .int k] (mz_SH L, I, R) (fun r => r = (some (.int (mm_cvg I wh nl p k)), (mz_SH L, I, R))) := by
  refine mj_enter in_134 (L := [.ref 87, .int p, .int k, .retAddr 0, .retAddr 0]) rfl ?_
  refine mj_b_iload_n (hE := fe_134_0) (hv := rfl) (k := ?_)
  refine mj_b_callR (hE := fe_134_1) (hi := in_92) (h1 := g92 _ _) (hc := mj_cok_s rfl) (ha := rfl) (hr := rfl) ?_
  refine mj_b_if1 (hE := fe_134_4) (kt := fun h4 => ?_) (kf := fun h4 => ?_)
  · simp only [mj_cnd, decide_eq_true_eq, decide_eq_false_iff_not, Bool.not_eq_true', Bool.not_eq_false', pz_0, Bool.not_eq_false, Bool.not_eq_true] at h4
    refine mj_b_iconst (hE := fe_134_12) (k := ?_)
    exact mj_b_retI (hE := fe_134_13) (hi := in_134) (by first | (simp [mm_cvg, pz, h4]; done) | (simp_all [mm_cvg, pz]; done) | rfl)
  · simp only [mj_cnd, decide_eq_true_eq, decide_eq_false_iff_not, Bool.not_eq_true', Bool.not_eq_false', pz_0, Bool.not_eq_false, Bool.not_eq_true] at h4
    refine mj_b_iload_n (hE := fe_134_7) (hv := rfl) (k := ?_)
    refine mj_b_iconst (hE := fe_134_8) (k := ?_)
    refine mj_b_if2 (hE := fe_134_9) (kt := fun h9 => ?_) (kf := fun h9 => ?_)
    · simp only [mj_cnd, decide_eq_true_eq, decide_eq_false_iff_not, Bool.not_eq_true', Bool.not_eq_false', pz_0, Bool.not_eq_false, Bool.not_eq_true] at h9
      refine mj_b_iconst (hE := fe_134_14) (k := ?_)
      refine mj_b_istore_n (hE := fe_134_15) (hx := Nat.le_of_ble_eq_true rfl) (k := ?_)
      refine mj_b_iconst (hE := fe_134_16) (k := ?_)
      refine mj_b_istore (hE := fe_134_17) (hx := Nat.le_of_ble_eq_true rfl) (k := ?_)
      exact (l134q hm hk nl 0 0 (by omega)).mono (fun s hs => by rw [hs]; simp [mm_cvg, h4, h9])
    · simp only [mj_cnd, decide_eq_true_eq, decide_eq_false_iff_not, Bool.not_eq_true', Bool.not_eq_false', pz_0, Bool.not_eq_false, Bool.not_eq_true] at h9
      refine mj_b_iconst (hE := fe_134_12) (k := ?_)
      exact mj_b_retI (hE := fe_134_13) (hi := in_134) (by first | (simp [mm_cvg, pz, h4, h9]; done) | (simp_all [mm_cvg, pz]; done) | rfl)
set_option maxHeartbeats 2000000 in
theorem l135q {t : Int32} (hm : mm_ok R) (hk : (I 98 1 = nI nl ∧ nl ≤ 6) ∧ ∀ l, l < nl → I 96 l = pz (wh l)) (hlo : ∀ l, l < nl → I 95 l = pz (lo l)) :
    ∀ (m i : Nat), i + m = nl → mj_T pj_P 135 2 [.ref 87, .int t, .int (nI i)] [] (mz_SH L, I, R) (fun s => s = (some (.long (mm_lko I lo wh t i m)), (mz_SH L, I, R))) := by
  obtain ⟨q0, q1, q2, q3, q4, q5, q6, q7, q8, q9, q10, q11, q16, q21⟩ := hm
  obtain ⟨⟨hl1, hl2⟩, hwh⟩ := hk
  have h87 := sm_87 L
  have h93 := sm_93 L
  have h94 := sm_94 L
  have h95 := sm_95 L
  have h96 := sm_96 L
  have h97 := sm_97 L
  have h98 := sm_98 L
  intro m
  induction m with
  | zero =>
    intro i hi
    have hin : i = nl := by omega
    subst hin
    refine mj_b_iload_n (hE := fe_135_2) (hv := rfl) (k := ?_)
    refine mj_b_rload_n (hE := fe_135_3) (hv := rfl) (k := ?_)
    refine mj_b_getQ (hE := fe_135_4) (hM := by assumption) (hv := by assumption) (k := ?_)
    refine mj_b_iconst (hE := fe_135_7) (k := ?_)
    refine mj_b_ialdN (hE := fe_135_8) (hM := h98) (ht := Or.inr rfl) (hj := show (1 : Int32) = nI 1 from rfl) (hc := by decide) (hn := by decide) (hv := hl1) (k := ?_)
    refine mj_b_if2 (hE := fe_135_9) (kt := fun h => ?_) (kf := fun h => ?_)
    · refine mj_b_ldc2 (hE := fe_135_84) (k := ?_)
      exact mj_b_retL (hE := fe_135_87) (hi := in_135) (by first | (simp [mm_lko, pz]; done) | (simp_all [mm_lko, pz]; done) | rfl)
    · simp [mj_cnd] at h
  | succ m ih =>
    intro i hi
    have hw1 := hwh i (by omega)
    have hlo1 := hlo i (by omega)
    have hnx : ∀ Q, mj_T pj_P 135 2 [.ref 87, .int t, .int (nI (i + 1))] [] (mz_SH L, I, R) Q → mj_T pj_P 135 78 [.ref 87, .int t, .int (nI i)] [] (mz_SH L, I, R) Q := by
      intro Q hQ
      refine mj_b_iinc (hE := fe_135_78) (hv := rfl) (k := ?_)
      refine mj_b_goto (hE := fe_135_81) (k := ?_)
      exact (show mj_T pj_P 135 2 [.ref 87, .int t, .int (nI i + 1)] [] (mz_SH L, I, R) Q from (nI_succ i) ▸ hQ)
    refine mj_b_iload_n (hE := fe_135_2) (hv := rfl) (k := ?_)
    refine mj_b_rload_n (hE := fe_135_3) (hv := rfl) (k := ?_)
    refine mj_b_getQ (hE := fe_135_4) (hM := by assumption) (hv := by assumption) (k := ?_)
    refine mj_b_iconst (hE := fe_135_7) (k := ?_)
    refine mj_b_ialdN (hE := fe_135_8) (hM := h98) (ht := Or.inr rfl) (hj := show (1 : Int32) = nI 1 from rfl) (hc := by decide) (hn := by decide) (hv := hl1) (k := ?_)
    refine mj_b_if2 (hE := fe_135_9) (kt := fun h => ?_) (kf := fun h => ?_)
    · simp only [mj_cnd, decide_eq_true_eq] at h
      exact absurd h (nI_ge (by omega) (by omega))
    · refine mj_b_rload_n (hE := fe_135_12) (hv := rfl) (k := ?_)
      refine mj_b_getQ (hE := fe_135_13) (hM := by assumption) (hv := by assumption) (k := ?_)
      refine mj_b_iload_n (hE := fe_135_16) (hv := rfl) (k := ?_)
      refine mj_b_ialdN (hE := fe_135_17) (hM := by assumption) (ht := Or.inr rfl) (hj := rfl) (hc := by omega) (hn := by decide) (hv := rfl) (k := ?_)
      refine mj_b_iload_n (hE := fe_135_18) (hv := rfl) (k := ?_)
      refine mj_b_if2 (hE := fe_135_19) (kt := fun h19 => ?_) (kf := fun h19 => ?_)
      · simp only [mj_cnd, decide_eq_true_eq, decide_eq_false_iff_not, Bool.not_eq_true', Bool.not_eq_false', pz_0, Bool.not_eq_false, Bool.not_eq_true] at h19
        exact hnx _ ((ih (i + 1) (by omega)).mono (fun s hs => by rw [hs]; simp [mm_lko, h19]))
      · simp only [mj_cnd, decide_eq_true_eq, decide_eq_false_iff_not, Bool.not_eq_true', Bool.not_eq_false', pz_0, Bool.not_eq_false, Bool.not_eq_true] at h19
        refine mj_b_rload_n (hE := fe_135_22) (hv := rfl) (k := ?_)
        refine mj_b_getQ (hE := fe_135_23) (hM := by assumption) (hv := by assumption) (k := ?_)
        refine mj_b_iload_n (hE := fe_135_26) (hv := rfl) (k := ?_)
        refine mj_b_ialdN (hE := fe_135_27) (hM := by assumption) (ht := Or.inr rfl) (hj := rfl) (hc := by omega) (hn := by decide) (hv := rfl) (k := ?_)
        refine mj_b_i2l (hE := fe_135_28) (k := ?_)
        refine mj_b_ldc2 (hE := fe_135_29) (k := ?_)
        refine mj_b_lmul (hE := fe_135_32) (k := ?_)
        refine mj_b_ldc2 (hE := fe_135_33) (k := ?_)
        refine mj_b_rload_n (hE := fe_135_36) (hv := rfl) (k := ?_)
        refine mj_b_getQ (hE := fe_135_37) (hM := by assumption) (hv := by assumption) (k := ?_)
        refine mj_b_iload_n (hE := fe_135_40) (hv := rfl) (k := ?_)
        refine mj_b_ialdN (hE := fe_135_41) (hM := by assumption) (ht := Or.inr rfl) (hj := rfl) (hc := by omega) (hn := by decide) (hv := rfl) (k := ?_)
        refine mj_b_i2l (hE := fe_135_42) (k := ?_)
        refine mj_b_lmul (hE := fe_135_43) (k := ?_)
        refine mj_b_ladd (hE := fe_135_44) (k := ?_)
        refine mj_b_rload_n (hE := fe_135_45) (hv := rfl) (k := ?_)
        refine mj_b_getQ (hE := fe_135_46) (hM := by assumption) (hv := by assumption) (k := ?_)
        refine mj_b_iload_n (hE := fe_135_49) (hv := rfl) (k := ?_)
        refine mj_b_baldN (hE := fe_135_50) (hM := by assumption) (hj := rfl) (hc := by omega) (hn := by decide) (hv := by assumption) (k := ?_)
        refine mj_b_if1 (hE := fe_135_51) (kt := fun h51 => ?_) (kf := fun h51 => ?_)
        · simp only [mj_cnd, decide_eq_true_eq, decide_eq_false_iff_not, Bool.not_eq_true', Bool.not_eq_false', pz_0, Bool.not_eq_false, Bool.not_eq_true] at h51
          refine mj_b_lconst (hE := fe_135_60) (k := ?_)
          refine mj_b_ladd (hE := fe_135_61) (k := ?_)
          refine mj_b_rload_n (hE := fe_135_62) (hv := rfl) (k := ?_)
          refine mj_b_getQ (hE := fe_135_63) (hM := by assumption) (hv := by assumption) (k := ?_)
          refine mj_b_iload_n (hE := fe_135_66) (hv := rfl) (k := ?_)
          refine mj_b_baldN (hE := fe_135_67) (hM := by assumption) (hj := rfl) (hc := by omega) (hn := by decide) (hv := by assumption) (k := ?_)
          refine mj_b_if1 (hE := fe_135_68) (kt := fun h68 => ?_) (kf := fun h68 => ?_)
          · simp only [mj_cnd, decide_eq_true_eq, decide_eq_false_iff_not, Bool.not_eq_true', Bool.not_eq_false', pz_0, Bool.not_eq_false, Bool.not_eq_true] at h68
            refine mj_b_lconst (hE := fe_135_75) (k := ?_)
            refine mj_b_ladd (hE := fe_135_76) (k := ?_)
            exact mj_b_retL (hE := fe_135_77) (hi := in_135) (by first | (simp [mm_lko, mm_lkv, pz, h19, h51, h68]; done) | (simp_all [mm_lko, mm_lkv, pz]; done) | rfl)
          · simp only [mj_cnd, decide_eq_true_eq, decide_eq_false_iff_not, Bool.not_eq_true', Bool.not_eq_false', pz_0, Bool.not_eq_false, Bool.not_eq_true] at h68
            refine mj_b_lconst (hE := fe_135_71) (k := ?_)
            refine mj_b_goto (hE := fe_135_72) (k := ?_)
            refine mj_b_ladd (hE := fe_135_76) (k := ?_)
            exact mj_b_retL (hE := fe_135_77) (hi := in_135) (by first | (simp [mm_lko, mm_lkv, pz, h19, h51, h68]; done) | (simp_all [mm_lko, mm_lkv, pz]; done) | rfl)
        · simp only [mj_cnd, decide_eq_true_eq, decide_eq_false_iff_not, Bool.not_eq_true', Bool.not_eq_false', pz_0, Bool.not_eq_false, Bool.not_eq_true] at h51
          refine mj_b_ldc2 (hE := fe_135_54) (k := ?_)
          refine mj_b_goto (hE := fe_135_57) (k := ?_)
          refine mj_b_ladd (hE := fe_135_61) (k := ?_)
          refine mj_b_rload_n (hE := fe_135_62) (hv := rfl) (k := ?_)
          refine mj_b_getQ (hE := fe_135_63) (hM := by assumption) (hv := by assumption) (k := ?_)
          refine mj_b_iload_n (hE := fe_135_66) (hv := rfl) (k := ?_)
          refine mj_b_baldN (hE := fe_135_67) (hM := by assumption) (hj := rfl) (hc := by omega) (hn := by decide) (hv := by assumption) (k := ?_)
          refine mj_b_if1 (hE := fe_135_68) (kt := fun h68 => ?_) (kf := fun h68 => ?_)
          · simp only [mj_cnd, decide_eq_true_eq, decide_eq_false_iff_not, Bool.not_eq_true', Bool.not_eq_false', pz_0, Bool.not_eq_false, Bool.not_eq_true] at h68
            refine mj_b_lconst (hE := fe_135_75) (k := ?_)
            refine mj_b_ladd (hE := fe_135_76) (k := ?_)
            exact mj_b_retL (hE := fe_135_77) (hi := in_135) (by first | (simp [mm_lko, mm_lkv, pz, h19, h51, h68]; done) | (simp_all [mm_lko, mm_lkv, pz]; done) | rfl)
          · simp only [mj_cnd, decide_eq_true_eq, decide_eq_false_iff_not, Bool.not_eq_true', Bool.not_eq_false', pz_0, Bool.not_eq_false, Bool.not_eq_true] at h68
            refine mj_b_lconst (hE := fe_135_71) (k := ?_)
            refine mj_b_goto (hE := fe_135_72) (k := ?_)
            refine mj_b_ladd (hE := fe_135_76) (k := ?_)
            exact mj_b_retL (hE := fe_135_77) (hi := in_135) (by first | (simp [mm_lko, mm_lkv, pz, h19, h51, h68]; done) | (simp_all [mm_lko, mm_lkv, pz]; done) | rfl)
/-- LockedTreeModel.lockOf -/
theorem g135q (t : Int32) (hm : mm_ok R) (hk : (I 98 1 = nI nl ∧ nl ≤ 6) ∧ ∀ l, l < nl → I 96 l = pz (wh l)) (hlo : ∀ l, l < nl → I 95 l = pz (lo l)) :
    mj_G pj_P 135 [.ref 87, .int t] (mz_SH L, I, R) (fun s => s = (some (.long (mm_lko I lo wh t 0 nl)), (mz_SH L, I, R))) := by
  refine mj_enter in_135 (L := [.ref 87, .int t, .retAddr 0]) rfl ?_
  refine mj_b_iconst (hE := fe_135_0) (k := ?_)
  refine mj_b_istore_n (hE := fe_135_1) (hx := Nat.le_of_ble_eq_true rfl) (k := ?_)
  exact l135q hm hk hlo nl 0 (by omega)
end QB
/-- the k-th of the locks that cover p -/
def a_cvk (p k : Int32) : List ty_lk → Int32 → Int32
  | [], c => if k = -1 then c else -1
  | l :: ls, c => if a_cov p l = true then (if c = k then l.1 else a_cvk p k ls (c + 1)) else a_cvk p k ls c
theorem c_cvk_list {g : Nat → Bool} {tok : Nat → Int32} {p k : Int32} : ∀ (ls : List ty_lk) (i : Nat) (c : Int32), (∀ j l, ls[j]? = some l → g (i + j) = a_cov p l ∧ tok (i + j) = l.1) → c_cvk g tok k i ls.length c = a_cvk p k ls c := by
  intro ls
  induction ls with
  | nil => intro i c _; rfl
  | cons l ls ih =>
    intro i c h
    have h0 := h 0 l rfl
    rw [Nat.add_zero] at h0
    have h1 := fun c => ih (i + 1) c (fun j r hj => by have := h (j + 1) r (by simpa using hj); rwa [show i + (j + 1) = i + 1 + j by omega] at this)
    simp only [List.length_cons, c_cvk, a_cvk, h0.1, h0.2, h1]
theorem a_cvk_neg {p k : Int32} (hk : k < -1) : ∀ (ls : List ty_lk) (m : Nat), m + ls.length < 100 → a_cvk p k ls (nI m) = -1 := by
  intro ls
  have hk2 : k.toInt < -1 := by rw [Int32.lt_iff_toInt_lt] at hk; exact hk
  induction ls with
  | nil =>
    intro m _
    simp only [a_cvk]
    rw [if_neg]
    rintro rfl
    exact absurd hk2 (by decide)
  | cons l ls ih =>
    intro m hm
    rw [List.length_cons] at hm
    simp only [a_cvk]
    have hne : ¬ nI m = k := by
      intro e
      rw [← e, nI_toInt (by omega)] at hk2
      omega
    rw [if_neg hne, ← nI_succ, ih (m + 1) (by omega), ih m (by omega)]
    split <;> rfl
section QC
variable {L n b sn sx : Nat} {pi pn px : Nat → Nat} {S : ty_st} {H : ty_hd} {rs : List ty_rw} {hs ms : List Int32} {f w : Int32} {I : Nat → Nat → Int32} {R : Nat → Nat → Option Nat}
theorem md_rep.lkq (h : md_rep 0 (rs, S.2) I) : (I 98 1 = nI S.2.1.length ∧ S.2.1.length ≤ 6) ∧ ∀ l, l < S.2.1.length → I 96 l = pz (lx_dp S.2.1 l) := by
  obtain ⟨-, -, ⟨b1, b2⟩, -, hl, -⟩ := h
  refine ⟨⟨b1, b2⟩, ?_⟩
  intro l hlt
  have e : S.2.1[l]? = some S.2.1[l] := List.getElem?_eq_getElem hlt
  have := (hl l _ e).2.2.2.1
  rw [Nat.mul_zero, Nat.zero_add] at this
  rw [this]
  simp only [lx_dp, e]
theorem md_rep.exq (h : md_rep 0 (rs, S.2) I) : ∀ l, l < S.2.1.length → I 95 l = pz (lx_ex S.2.1 l) := by
  obtain ⟨-, -, ⟨b1, b2⟩, -, hl, -⟩ := h
  intro l hlt
  have e : S.2.1[l]? = some S.2.1[l] := List.getElem?_eq_getElem hlt
  have := (hl l _ e).2.2.1
  rw [Nat.mul_zero, Nat.zero_add] at this
  rw [this]
  simp only [lx_ex, e]
theorem q_cov (h : c_all sn sx pn px S H f w ms I R) (hm : m_all (rs, S.2) hs f w ms I) (p k : Int32) : mm_cvg I (lx_dp S.2.1) S.2.1.length p k = c_cvg I sn (lx_dp S.2.1) S.2.1.length p k := by
  unfold mm_cvg c_cvg
  have e1 := c_cvk_list (g := mm_cov I (lx_dp S.2.1) p) (tok := fun i => I 93 i) (p := p) (k := k) S.2.1 0 0 (fun j l hj => by
    rw [Nat.zero_add]
    refine ⟨hm.1.cov p hj, ?_⟩
    have := (hm.1.2.2.2.2.1 j l hj).1
    rwa [Nat.mul_zero, Nat.zero_add] at this)
  have e2 := c_cvk_list (g := c_cov I sn (lx_dp S.2.1) p) (tok := fun i => I (sn + 29 + i) 0) (p := p) (k := k) S.2.1 0 0 (fun j l hj => by
    rw [Nat.zero_add]
    exact ⟨h.2.2.1.cov p hj, (h.2.2.1.2.2.2.2.2.1 j l hj).1⟩)
  rw [e1, e2]
  by_cases hp : pf_path p = true
  · by_cases hk : (-1 : Int32) ≤ k
    · rw [if_pos ⟨hp, hk⟩, if_pos hp]
    · rw [if_neg (fun e => hk e.2), if_pos hp]
      have hk2 : k < -1 := by rw [Int32.le_iff_toInt_le] at hk; rw [Int32.lt_iff_toInt_lt]; omega
      have h6 := h.2.2.1.2.2.2.1.2
      exact (a_cvk_neg hk2 S.2.1 0 (by omega)).symm
  · rw [if_neg (fun e => hp e.1), if_neg hp]
def a_lkv (l : ty_lk) : Int64 := l.2.2.1.toInt64 * Int64.ofInt 16384 + Int64.ofInt 4 * l.2.1.toInt64 + (if l.2.2.2.2 = true then Int64.ofInt 2 else Int64.ofInt 0) + (if l.2.2.2.1 = true then Int64.ofInt 1 else Int64.ofInt 0)
theorem mm_lko_list {lo wh : Nat → Bool} {t : Int32} : ∀ (ls : List ty_lk) (i : Nat), (∀ j l, ls[j]? = some l → ml_at I (i + j) l ∧ lo (i + j) = l.2.2.2.1 ∧ wh (i + j) = l.2.2.2.2) → mm_lko I lo wh t i ls.length = (match al_get ls t with
    | some l => a_lkv l
    | none => Int64.ofInt (-1)) := by
  intro ls
  induction ls with
  | nil => intro i _; rfl
  | cons l ls ih =>
    intro i h
    have h0 := h 0 l rfl
    rw [Nat.add_zero] at h0
    obtain ⟨⟨k0, k1, k2, k3, k4⟩, e1, e2⟩ := h0
    have h1 := ih (i + 1) (fun j r hj => by have := h (j + 1) r (by simpa using hj); rwa [show i + (j + 1) = i + 1 + j by omega] at this)
    simp only [List.length_cons, mm_lko, k0]
    unfold al_get
    rw [List.find?_cons]
    by_cases ht : l.1 = t
    · rw [if_pos ht]
      simp only [ht, decide_true]
      unfold mm_lkv a_lkv
      rw [k4, k1, e1, e2]
    · rw [if_neg ht, h1]
      simp only [ht, decide_false]
      rfl
theorem q_lko (h : c_all sn sx pn px S H f w ms I R) (hm : m_all (rs, S.2) hs f w ms I) (t : Int32) : mm_lko I (lx_ex S.2.1) (lx_dp S.2.1) t 0 S.2.1.length = c_lko I sn (lx_ex S.2.1) (lx_dp S.2.1) S.2.1.length t := by
  rw [mm_lko_list S.2.1 0 (fun j l hj => by
    rw [Nat.zero_add]
    have := hm.1.2.2.2.2.1 j l hj
    rw [Nat.mul_zero, Nat.zero_add] at this
    exact ⟨this, by simp only [lx_ex, hj], by simp only [lx_dp, hj]⟩)]
  unfold c_lko
  rw [h.2.2.1.lfi]
  cases hf : al_fi S.2.1 t with
  | none => rw [al_fi_getN hf]
  | some i =>
    obtain ⟨hi1, -⟩ := List.findIdx?_eq_some_iff_getElem.mp hf
    have hi2 : S.2.1[i]? = some S.2.1[i] := List.getElem?_eq_getElem hi1
    rw [← al_fi_get hf, hi2]
    have hl := h.2.2.1.2.2.2.2.2.1 i _ hi2
    simp only [c_lkv, a_lkv, lx_ex, lx_dp, hi2, hl.2.1, hl.2.2.1]
    all_goals (cases (S.2.1[i]).2.2.2.1 <;> cases (S.2.1[i]).2.2.2.2 <;> rfl)
theorem q_mul (h : c_all sn sx pn px S H f w ms I R) (hm : m_all (rs, S.2) hs f w ms I) (k : Int32) : mm_mul I ms.length k = c_mul I ms.length k := by
  unfold mm_mul c_mul
  by_cases hk : k = -1
  · rw [if_pos hk, if_pos hk]
  · rw [if_neg hk, if_neg hk]
    have h12 := h.2.2.2.2.2.2.2.1.2
    by_cases hk0 : k < 0
    · rw [if_pos (Or.inl hk0), if_neg (by simp [pf_from, hk0])]
    · have hkn := i32_nI hk0
      have hm31 : k.toInt.toNat < 2 ^ 31 := by have := k.toInt_lt; omega
      generalize k.toInt.toNat = m at hkn hm31
      subst hkn
      by_cases hlt : m < ms.length
      · have g1 : ¬ (nI m < 0 ∨ nI ms.length ≤ nI m) := by
          rintro (x | x)
          · exact hk0 x
          · rw [nI_le_iff (by omega) (by omega)] at x; omega
        have g2 : pf_from (nI m) 0 (nI ms.length - 1) = true := by
          rw [pf_from_gt, show (1 : Int32) = nI 1 from rfl, nI_sub (by omega)]
          simp only [hk0, decide_false, Bool.not_false, Bool.true_and, decide_eq_true_eq]
          rw [nI_le_iff (by omega) (by omega)]
          omega
        rw [if_neg g1, if_pos g2, nI_clamp (by omega)]
        have hv : ms[m]? = some ms[m] := List.getElem?_eq_getElem hlt
        rw [hm.2.2.2.2.2.2 m _ hv, h.2.2.2.2.2.2.2.2 m _ hv]
      · have g1 : nI m < 0 ∨ nI ms.length ≤ nI m := Or.inr (by rw [nI_le_iff (by omega) (by omega)]; omega)
        rw [if_pos g1, if_neg]
        intro g2
        rw [pf_from_gt] at g2
        simp only [hk0, decide_false, Bool.not_false, Bool.true_and, decide_eq_true_eq] at g2
        rcases Nat.eq_zero_or_pos ms.length with hz | hz
        · rw [hz, show nI 0 - 1 = -1 from rfl] at g2
          rw [Int32.le_iff_toInt_le, nI_toInt (by omega), show (-1 : Int32).toInt = -1 from rfl] at g2
          omega
        · rw [show (1 : Int32) = nI 1 from rfl, nI_sub (by omega), nI_le_iff (by omega) (by omega)] at g2
          omega
end QC
