/-! ===== the model: locks and lists ===== -/
section MT
variable {L n sd nl ns : Nat} {I : Nat → Nat → Int32} {R : Nat → Nat → Option Nat} {wh lo fo : Nat → Bool}
def mm_abf (I : Nat → Nat → Int32) (wh : Nat → Bool) (nl ns : Nat) (p : Int32) (i : Nat) : Bool := pf_below (I 88 i) p && mm_bar I wh nl ns (I 88 i)
set_option maxHeartbeats 2000000 in
theorem l120 {p : Int32} (hm : mm_ok R) (hk : mm_lk nl ns wh I) (hn : I 98 0 = nI n) (hn13 : n ≤ 13) :
    ∀ (k i : Nat) (sm : Bool), i + k = n → mj_T pj_P 120 27 [.ref 87, .int p, .int (pz sm), .int (nI i)] [] (mz_SH L, I, R) (fun r => r = (some (.int (pz (sm || pa_any (mm_abf I wh nl ns p) i k))), (mz_SH L, I, R))) := by
  have hm0 := hm
  obtain ⟨q0, q1, q2, q3, q4, q5, q6, q7, q8, q9, q10, q11, q16, q21⟩ := hm
  have h87 := sm_87 L
  have h88 := sm_88 L
  have h98 := sm_98 L
  intro k
  induction k with
  | zero =>
    intro i sm hi
    have hin : i = n := by omega
    subst hin
    refine mj_b_iload_n (hE := fe_120_27) (hv := rfl) (k := ?_)
    refine mj_b_rload_n (hE := fe_120_28) (hv := rfl) (k := ?_)
    refine mj_b_getQ (hE := fe_120_29) (hM := by assumption) (hv := by assumption) (k := ?_)
    refine mj_b_iconst (hE := fe_120_32) (k := ?_)
    refine mj_b_ialdN (hE := fe_120_33) (hM := h98) (ht := Or.inr rfl) (hj := show (0 : Int32) = nI 0 from rfl) (hc := by decide) (hn := by decide) (hv := hn) (k := ?_)
    refine mj_b_if2 (hE := fe_120_34) (kt := fun h => ?_) (kf := fun h => ?_)
    · refine mj_b_iload_n (hE := fe_120_79) (hv := rfl) (k := ?_)
      exact mj_b_retZ (hE := fe_120_80) (hi := in_120) (by first | decide | exact pz_01 _) (by first | (simp [pa_any, pz]; done) | (simp_all [pa_any, pz]; done) | rfl)
    · simp [mj_cnd] at h
  | succ k ih =>
    intro i sm hi
    have hnx : ∀ Q v a, mj_T pj_P 120 27 [.ref 87, .int p, .int v, .int (nI (i + 1))] [] (mz_SH L, I, R) Q → mj_T pj_P 120 72 [.ref 87, .int p, a, .int (nI i)] [.int v] (mz_SH L, I, R) Q := by
      intro Q v a hQ
      refine mj_b_istore_n (hE := fe_120_72) (hx := Nat.le_of_ble_eq_true rfl) (k := ?_)
      refine mj_b_iinc (hE := fe_120_73) (hv := rfl) (k := ?_)
      refine mj_b_goto (hE := fe_120_76) (k := ?_)
      exact (show mj_T pj_P 120 27 [.ref 87, .int p, .int v, .int (nI i + 1)] [] (mz_SH L, I, R) Q from (nI_succ i) ▸ hQ)
    refine mj_b_iload_n (hE := fe_120_27) (hv := rfl) (k := ?_)
    refine mj_b_rload_n (hE := fe_120_28) (hv := rfl) (k := ?_)
    refine mj_b_getQ (hE := fe_120_29) (hM := by assumption) (hv := by assumption) (k := ?_)
    refine mj_b_iconst (hE := fe_120_32) (k := ?_)
    refine mj_b_ialdN (hE := fe_120_33) (hM := h98) (ht := Or.inr rfl) (hj := show (0 : Int32) = nI 0 from rfl) (hc := by decide) (hn := by decide) (hv := hn) (k := ?_)
    refine mj_b_if2 (hE := fe_120_34) (kt := fun h => ?_) (kf := fun h => ?_)
    · simp only [mj_cnd, decide_eq_true_eq] at h
      exact absurd h (nI_ge (by omega) (by omega))
    · refine mj_b_iload_n (hE := fe_120_37) (hv := rfl) (k := ?_)
      refine mj_b_if1 (hE := fe_120_38) (kt := fun h38 => ?_) (kf := fun h38 => ?_)
      · simp only [mj_cnd, decide_eq_true_eq, decide_eq_false_iff_not, Bool.not_eq_true', Bool.not_eq_false', pz_0, Bool.not_eq_false, Bool.not_eq_true] at h38
        refine mj_b_iconst (hE := fe_120_67) (k := ?_)
        refine mj_b_goto (hE := fe_120_68) (k := ?_)
        exact hnx _ (pz true) _ ((ih (i + 1) true (by omega)).mono (fun s hs => by rw [hs]; simp [pa_any, mm_abf, h38]))
      · simp only [mj_cnd, decide_eq_true_eq, decide_eq_false_iff_not, Bool.not_eq_true', Bool.not_eq_false', pz_0, Bool.not_eq_false, Bool.not_eq_true] at h38
        refine mj_b_rload_n (hE := fe_120_41) (hv := rfl) (k := ?_)
        refine mj_b_getQ (hE := fe_120_42) (hM := by assumption) (hv := by assumption) (k := ?_)
        refine mj_b_iload_n (hE := fe_120_45) (hv := rfl) (k := ?_)
        refine mj_b_ialdN (hE := fe_120_46) (hM := by assumption) (ht := Or.inr rfl) (hj := rfl) (hc := by omega) (hn := by decide) (hv := rfl) (k := ?_)
        refine mj_b_iload_n (hE := fe_120_47) (hv := rfl) (k := ?_)
        refine mj_b_callR (hE := fe_120_48) (hi := in_100) (h1 := g100 _ _ _) (hc := mj_cok_s rfl) (ha := rfl) (hr := rfl) ?_
        refine mj_b_if1 (hE := fe_120_51) (kt := fun h51 => ?_) (kf := fun h51 => ?_)
        · simp only [mj_cnd, decide_eq_true_eq, decide_eq_false_iff_not, Bool.not_eq_true', Bool.not_eq_false', pz_0, Bool.not_eq_false, Bool.not_eq_true] at h51
          refine mj_b_iconst (hE := fe_120_71) (k := ?_)
          exact hnx _ (pz false) _ ((ih (i + 1) false (by omega)).mono (fun s hs => by rw [hs]; simp [pa_any, mm_abf, h38, h51]))
        · simp only [mj_cnd, decide_eq_true_eq, decide_eq_false_iff_not, Bool.not_eq_true', Bool.not_eq_false', pz_0, Bool.not_eq_false, Bool.not_eq_true] at h51
          refine mj_b_rload_n (hE := fe_120_54) (hv := rfl) (k := ?_)
          refine mj_b_rload_n (hE := fe_120_55) (hv := rfl) (k := ?_)
          refine mj_b_getQ (hE := fe_120_56) (hM := by assumption) (hv := by assumption) (k := ?_)
          refine mj_b_iload_n (hE := fe_120_59) (hv := rfl) (k := ?_)
          refine mj_b_ialdN (hE := fe_120_60) (hM := by assumption) (ht := Or.inr rfl) (hj := rfl) (hc := by omega) (hn := by decide) (hv := rfl) (k := ?_)
          refine mj_b_callR (hE := fe_120_61) (hi := in_105) (h1 := g105 _ hm0 hk) (hc := mj_cok_v rfl rfl (by assumption)) (ha := rfl) (hr := rfl) ?_
          refine mj_b_if1 (hE := fe_120_64) (kt := fun h64 => ?_) (kf := fun h64 => ?_)
          · simp only [mj_cnd, decide_eq_true_eq, decide_eq_false_iff_not, Bool.not_eq_true', Bool.not_eq_false', pz_0, Bool.not_eq_false, Bool.not_eq_true] at h64
            refine mj_b_iconst (hE := fe_120_71) (k := ?_)
            exact hnx _ (pz false) _ ((ih (i + 1) false (by omega)).mono (fun s hs => by rw [hs]; simp [pa_any, mm_abf, h38, h51, h64]))
          · simp only [mj_cnd, decide_eq_true_eq, decide_eq_false_iff_not, Bool.not_eq_true', Bool.not_eq_false', pz_0, Bool.not_eq_false, Bool.not_eq_true] at h64
            refine mj_b_iconst (hE := fe_120_67) (k := ?_)
            refine mj_b_goto (hE := fe_120_68) (k := ?_)
            exact hnx _ (pz true) _ ((ih (i + 1) true (by omega)).mono (fun s hs => by rw [hs]; simp [pa_any, mm_abf, h38, h51, h64]))
def mm_aba (I : Nat → Nat → Int32) (wh : Nat → Bool) (n nl ns : Nat) (p : Int32) : Bool := mm_bar I wh nl ns p || (mm_bar I wh nl ns (p / 8) || pa_any (mm_abf I wh nl ns p) 0 n)
/-- LockedTreeModel.anyBarred -/
theorem g120 (p : Int32) (hm : mm_ok R) (hk : mm_lk nl ns wh I) (hn : I 98 0 = nI n) (hn13 : n ≤ 13) :
    mj_G pj_P 120 [.ref 87, .int p] (mz_SH L, I, R) (fun r => r = (some (.int (pz (mm_aba I wh n nl ns p))), (mz_SH L, I, R))) := by
  have h87 := sm_87 L
  have h24 : ∀ sm : Bool, mj_T pj_P 120 24 [.ref 87, .int p, .retAddr 0, .retAddr 0] [.int (pz sm)] (mz_SH L, I, R) (fun s => s = (some (.int (pz (sm || pa_any (mm_abf I wh nl ns p) 0 n))), (mz_SH L, I, R))) := by
    intro sm
    refine mj_b_istore_n (hE := fe_120_24) (hx := Nat.le_of_ble_eq_true rfl) (k := ?_)
    refine mj_b_iconst (hE := fe_120_25) (k := ?_)
    refine mj_b_istore_n (hE := fe_120_26) (hx := Nat.le_of_ble_eq_true rfl) (k := ?_)
    exact l120 hm hk hn hn13 n 0 sm (by omega)
  refine mj_enter in_120 (L := [.ref 87, .int p, .retAddr 0, .retAddr 0]) rfl ?_
  refine mj_b_rload_n (hE := fe_120_0) (hv := rfl) (k := ?_)
  refine mj_b_iload_n (hE := fe_120_1) (hv := rfl) (k := ?_)
  refine mj_b_callR (hE := fe_120_2) (hi := in_105) (h1 := g105 _ hm hk) (hc := mj_cok_v rfl rfl (by assumption)) (ha := rfl) (hr := rfl) ?_
  refine mj_b_if1 (hE := fe_120_5) (kt := fun h5 => ?_) (kf := fun h5 => ?_)
  · simp only [mj_cnd, decide_eq_true_eq, decide_eq_false_iff_not, Bool.not_eq_true', Bool.not_eq_false', pz_0, Bool.not_eq_false, Bool.not_eq_true] at h5
    refine mj_b_iconst (hE := fe_120_19) (k := ?_)
    refine mj_b_goto (hE := fe_120_20) (k := ?_)
    exact (h24 true).mono (fun s hs => by rw [hs]; simp [mm_aba, h5])
  · simp only [mj_cnd, decide_eq_true_eq, decide_eq_false_iff_not, Bool.not_eq_true', Bool.not_eq_false', pz_0, Bool.not_eq_false, Bool.not_eq_true] at h5
    refine mj_b_rload_n (hE := fe_120_8) (hv := rfl) (k := ?_)
    refine mj_b_iload_n (hE := fe_120_9) (hv := rfl) (k := ?_)
    refine mj_b_bipush (hE := fe_120_10) (k := ?_)
    refine mj_b_idiv (hE := fe_120_12) (hb := by decide) (k := ?_)
    refine mj_b_callR (hE := fe_120_13) (hi := in_105) (h1 := g105 _ hm hk) (hc := mj_cok_v rfl rfl (by assumption)) (ha := rfl) (hr := rfl) ?_
    refine mj_b_if1 (hE := fe_120_16) (kt := fun h16 => ?_) (kf := fun h16 => ?_)
    · simp only [mj_cnd, decide_eq_true_eq, decide_eq_false_iff_not, Bool.not_eq_true', Bool.not_eq_false', pz_0, Bool.not_eq_false, Bool.not_eq_true] at h16
      refine mj_b_iconst (hE := fe_120_23) (k := ?_)
      exact (h24 false).mono (fun s hs => by rw [hs]; simp [mm_aba, h5, h16])
    · simp only [mj_cnd, decide_eq_true_eq, decide_eq_false_iff_not, Bool.not_eq_true', Bool.not_eq_false', pz_0, Bool.not_eq_false, Bool.not_eq_true] at h16
      refine mj_b_iconst (hE := fe_120_19) (k := ?_)
      refine mj_b_goto (hE := fe_120_20) (k := ?_)
      exact (h24 true).mono (fun s hs => by rw [hs]; simp [mm_aba, h5, h16])
def mm_ref (I : Nat → Nat → Int32) (wh : Nat → Bool) (nl ns : Nat) (r : Int32) (i : Nat) : Bool := pf_below (I 88 i) r && mm_cli I wh nl ns (I 88 i)
set_option maxHeartbeats 2000000 in
theorem l115 {r p : Int32} (hm : mm_ok R) (hk : mm_lk nl ns wh I) (hn : I 98 0 = nI n) (hn13 : n ≤ 13) :
    ∀ (k i : Nat) (sm : Bool), i + k = n → mj_T pj_P 115 22 [.ref 87, .int r, .int p, .int (pz sm), .int (nI i)] [] (mz_SH L, I, R) (fun s => s = (some (.int (pz (sm || pa_any (mm_ref I wh nl ns r) i k))), (mz_SH L, I, R))) := by
  have hm0 := hm
  obtain ⟨q0, q1, q2, q3, q4, q5, q6, q7, q8, q9, q10, q11, q16, q21⟩ := hm
  have h87 := sm_87 L
  have h88 := sm_88 L
  have h98 := sm_98 L
  intro k
  induction k with
  | zero =>
    intro i sm hi
    have hin : i = n := by omega
    subst hin
    refine mj_b_iload (hE := fe_115_22) (hv := rfl) (k := ?_)
    refine mj_b_rload_n (hE := fe_115_24) (hv := rfl) (k := ?_)
    refine mj_b_getQ (hE := fe_115_25) (hM := by assumption) (hv := by assumption) (k := ?_)
    refine mj_b_iconst (hE := fe_115_28) (k := ?_)
    refine mj_b_ialdN (hE := fe_115_29) (hM := h98) (ht := Or.inr rfl) (hj := show (0 : Int32) = nI 0 from rfl) (hc := by decide) (hn := by decide) (hv := hn) (k := ?_)
    refine mj_b_if2 (hE := fe_115_30) (kt := fun h => ?_) (kf := fun h => ?_)
    · refine mj_b_iload_n (hE := fe_115_77) (hv := rfl) (k := ?_)
      exact mj_b_retZ (hE := fe_115_78) (hi := in_115) (by first | decide | exact pz_01 _) (by first | (simp [pa_any, pz]; done) | (simp_all [pa_any, pz]; done) | rfl)
    · simp [mj_cnd] at h
  | succ k ih =>
    intro i sm hi
    have hnx : ∀ Q v a, mj_T pj_P 115 22 [.ref 87, .int r, .int p, .int v, .int (nI (i + 1))] [] (mz_SH L, I, R) Q → mj_T pj_P 115 70 [.ref 87, .int r, .int p, a, .int (nI i)] [.int v] (mz_SH L, I, R) Q := by
      intro Q v a hQ
      refine mj_b_istore_n (hE := fe_115_70) (hx := Nat.le_of_ble_eq_true rfl) (k := ?_)
      refine mj_b_iinc (hE := fe_115_71) (hv := rfl) (k := ?_)
      refine mj_b_goto (hE := fe_115_74) (k := ?_)
      exact (show mj_T pj_P 115 22 [.ref 87, .int r, .int p, .int v, .int (nI i + 1)] [] (mz_SH L, I, R) Q from (nI_succ i) ▸ hQ)
    refine mj_b_iload (hE := fe_115_22) (hv := rfl) (k := ?_)
    refine mj_b_rload_n (hE := fe_115_24) (hv := rfl) (k := ?_)
    refine mj_b_getQ (hE := fe_115_25) (hM := by assumption) (hv := by assumption) (k := ?_)
    refine mj_b_iconst (hE := fe_115_28) (k := ?_)
    refine mj_b_ialdN (hE := fe_115_29) (hM := h98) (ht := Or.inr rfl) (hj := show (0 : Int32) = nI 0 from rfl) (hc := by decide) (hn := by decide) (hv := hn) (k := ?_)
    refine mj_b_if2 (hE := fe_115_30) (kt := fun h => ?_) (kf := fun h => ?_)
    · simp only [mj_cnd, decide_eq_true_eq] at h
      exact absurd h (nI_ge (by omega) (by omega))
    · refine mj_b_iload_n (hE := fe_115_33) (hv := rfl) (k := ?_)
      refine mj_b_if1 (hE := fe_115_34) (kt := fun h34 => ?_) (kf := fun h34 => ?_)
      · simp only [mj_cnd, decide_eq_true_eq, decide_eq_false_iff_not, Bool.not_eq_true', Bool.not_eq_false', pz_0, Bool.not_eq_false, Bool.not_eq_true] at h34
        refine mj_b_iconst (hE := fe_115_65) (k := ?_)
        refine mj_b_goto (hE := fe_115_66) (k := ?_)
        exact hnx _ (pz true) _ ((ih (i + 1) true (by omega)).mono (fun s hs => by rw [hs]; simp [pa_any, mm_ref, h34]))
      · simp only [mj_cnd, decide_eq_true_eq, decide_eq_false_iff_not, Bool.not_eq_true', Bool.not_eq_false', pz_0, Bool.not_eq_false, Bool.not_eq_true] at h34
        refine mj_b_rload_n (hE := fe_115_37) (hv := rfl) (k := ?_)
        refine mj_b_getQ (hE := fe_115_38) (hM := by assumption) (hv := by assumption) (k := ?_)
        refine mj_b_iload (hE := fe_115_41) (hv := rfl) (k := ?_)
        refine mj_b_ialdN (hE := fe_115_43) (hM := by assumption) (ht := Or.inr rfl) (hj := rfl) (hc := by omega) (hn := by decide) (hv := rfl) (k := ?_)
        refine mj_b_iload_n (hE := fe_115_44) (hv := rfl) (k := ?_)
        refine mj_b_callR (hE := fe_115_45) (hi := in_100) (h1 := g100 _ _ _) (hc := mj_cok_s rfl) (ha := rfl) (hr := rfl) ?_
        refine mj_b_if1 (hE := fe_115_48) (kt := fun h48 => ?_) (kf := fun h48 => ?_)
        · simp only [mj_cnd, decide_eq_true_eq, decide_eq_false_iff_not, Bool.not_eq_true', Bool.not_eq_false', pz_0, Bool.not_eq_false, Bool.not_eq_true] at h48
          refine mj_b_iconst (hE := fe_115_69) (k := ?_)
          exact hnx _ (pz false) _ ((ih (i + 1) false (by omega)).mono (fun s hs => by rw [hs]; simp [pa_any, mm_ref, h34, h48]))
        · simp only [mj_cnd, decide_eq_true_eq, decide_eq_false_iff_not, Bool.not_eq_true', Bool.not_eq_false', pz_0, Bool.not_eq_false, Bool.not_eq_true] at h48
          refine mj_b_rload_n (hE := fe_115_51) (hv := rfl) (k := ?_)
          refine mj_b_rload_n (hE := fe_115_52) (hv := rfl) (k := ?_)
          refine mj_b_getQ (hE := fe_115_53) (hM := by assumption) (hv := by assumption) (k := ?_)
          refine mj_b_iload (hE := fe_115_56) (hv := rfl) (k := ?_)
          refine mj_b_ialdN (hE := fe_115_58) (hM := by assumption) (ht := Or.inr rfl) (hj := rfl) (hc := by omega) (hn := by decide) (hv := rfl) (k := ?_)
          refine mj_b_callR (hE := fe_115_59) (hi := in_114) (h1 := g114 _ hm0 hk) (hc := mj_cok_v rfl rfl (by assumption)) (ha := rfl) (hr := rfl) ?_
          refine mj_b_if1 (hE := fe_115_62) (kt := fun h62 => ?_) (kf := fun h62 => ?_)
          · simp only [mj_cnd, decide_eq_true_eq, decide_eq_false_iff_not, Bool.not_eq_true', Bool.not_eq_false', pz_0, Bool.not_eq_false, Bool.not_eq_true] at h62
            refine mj_b_iconst (hE := fe_115_69) (k := ?_)
            exact hnx _ (pz false) _ ((ih (i + 1) false (by omega)).mono (fun s hs => by rw [hs]; simp [pa_any, mm_ref, h34, h48, h62]))
          · simp only [mj_cnd, decide_eq_true_eq, decide_eq_false_iff_not, Bool.not_eq_true', Bool.not_eq_false', pz_0, Bool.not_eq_false, Bool.not_eq_true] at h62
            refine mj_b_iconst (hE := fe_115_65) (k := ?_)
            refine mj_b_goto (hE := fe_115_66) (k := ?_)
            exact hnx _ (pz true) _ ((ih (i + 1) true (by omega)).mono (fun s hs => by rw [hs]; simp [pa_any, mm_ref, h34, h48, h62]))
def mm_rem (I : Nat → Nat → Int32) (wh : Nat → Bool) (n nl ns : Nat) (r p : Int32) : Bool := (!decide (r = p) && mm_cli I wh nl ns r) || pa_any (mm_ref I wh nl ns r) 0 n
/-- LockedTreeModel.remains -/
theorem g115 (r p : Int32) (hm : mm_ok R) (hk : mm_lk nl ns wh I) (hn : I 98 0 = nI n) (hn13 : n ≤ 13) :
    mj_G pj_P 115 [.ref 87, .int r, .int p] (mz_SH L, I, R) (fun s => s = (some (.int (pz (mm_rem I wh n nl ns r p))), (mz_SH L, I, R))) := by
  have h87 := sm_87 L
  have h18 : ∀ sm : Bool, mj_T pj_P 115 18 [.ref 87, .int r, .int p, .retAddr 0, .retAddr 0] [.int (pz sm)] (mz_SH L, I, R) (fun s => s = (some (.int (pz (sm || pa_any (mm_ref I wh nl ns r) 0 n))), (mz_SH L, I, R))) := by
    intro sm
    refine mj_b_istore_n (hE := fe_115_18) (hx := Nat.le_of_ble_eq_true rfl) (k := ?_)
    refine mj_b_iconst (hE := fe_115_19) (k := ?_)
    refine mj_b_istore (hE := fe_115_20) (hx := Nat.le_of_ble_eq_true rfl) (k := ?_)
    exact l115 hm hk hn hn13 n 0 sm (by omega)
  refine mj_enter in_115 (L := [.ref 87, .int r, .int p, .retAddr 0, .retAddr 0]) rfl ?_
  refine mj_b_iload_n (hE := fe_115_0) (hv := rfl) (k := ?_)
  refine mj_b_iload_n (hE := fe_115_1) (hv := rfl) (k := ?_)
  refine mj_b_if2 (hE := fe_115_2) (kt := fun h2 => ?_) (kf := fun h2 => ?_)
  · simp only [mj_cnd, decide_eq_true_eq, decide_eq_false_iff_not, Bool.not_eq_true', Bool.not_eq_false', pz_0, Bool.not_eq_false, Bool.not_eq_true] at h2
    refine mj_b_iconst (hE := fe_115_17) (k := ?_)
    exact (h18 false).mono (fun s hs => by rw [hs]; simp [mm_rem, h2])
  · simp only [mj_cnd, decide_eq_true_eq, decide_eq_false_iff_not, Bool.not_eq_true', Bool.not_eq_false', pz_0, Bool.not_eq_false, Bool.not_eq_true] at h2
    refine mj_b_rload_n (hE := fe_115_5) (hv := rfl) (k := ?_)
    refine mj_b_iload_n (hE := fe_115_6) (hv := rfl) (k := ?_)
    refine mj_b_callR (hE := fe_115_7) (hi := in_114) (h1 := g114 _ hm hk) (hc := mj_cok_v rfl rfl (by assumption)) (ha := rfl) (hr := rfl) ?_
    refine mj_b_if1 (hE := fe_115_10) (kt := fun h10 => ?_) (kf := fun h10 => ?_)
    · simp only [mj_cnd, decide_eq_true_eq, decide_eq_false_iff_not, Bool.not_eq_true', Bool.not_eq_false', pz_0, Bool.not_eq_false, Bool.not_eq_true] at h10
      refine mj_b_iconst (hE := fe_115_17) (k := ?_)
      exact (h18 false).mono (fun s hs => by rw [hs]; simp [mm_rem, h2, h10])
    · simp only [mj_cnd, decide_eq_true_eq, decide_eq_false_iff_not, Bool.not_eq_true', Bool.not_eq_false', pz_0, Bool.not_eq_false, Bool.not_eq_true] at h10
      refine mj_b_iconst (hE := fe_115_13) (k := ?_)
      refine mj_b_goto (hE := fe_115_14) (k := ?_)
      exact (h18 true).mono (fun s hs => by rw [hs]; simp [mm_rem, h2, h10])
set_option maxHeartbeats 2000000 in
theorem l134 {p k : Int32} (hm : mm_ok R) (hk : mm_lk nl ns wh I) :
    ∀ (m i : Nat) (c : Int32), i + m = nl → mj_T pj_P 134 19 [.ref 87, .int p, .int k, .int c, .int (nI i)] [] (mz_SH L, I, R) (fun s => s = (some (.int (c_cvk (mm_cov I wh p) (fun i => I 93 i) k i m c)), (mz_SH L, I, R))) := by
  have hm0 := hm
  obtain ⟨q0, q1, q2, q3, q4, q5, q6, q7, q8, q9, q10, q11, q16, q21⟩ := hm
  obtain ⟨⟨hl1, hl2⟩, -, hwh⟩ := hk
  have h87 := sm_87 L
  have h93 := sm_93 L
  have h98 := sm_98 L
  intro m
  induction m with
  | zero =>
    intro i c hi
    have hin : i = nl := by omega
    subst hin
    refine mj_b_iload (hE := fe_134_19) (hv := rfl) (k := ?_)
    refine mj_b_rload_n (hE := fe_134_21) (hv := rfl) (k := ?_)
    refine mj_b_getQ (hE := fe_134_22) (hM := by assumption) (hv := by assumption) (k := ?_)
    refine mj_b_iconst (hE := fe_134_25) (k := ?_)
    refine mj_b_ialdN (hE := fe_134_26) (hM := h98) (ht := Or.inr rfl) (hj := show (1 : Int32) = nI 1 from rfl) (hc := by decide) (hn := by decide) (hv := hl1) (k := ?_)
    refine mj_b_if2 (hE := fe_134_27) (kt := fun h => ?_) (kf := fun h => ?_)
    · refine mj_b_iload_n (hE := fe_134_62) (hv := rfl) (k := ?_)
      refine mj_b_iconst (hE := fe_134_63) (k := ?_)
      refine mj_b_if2 (hE := fe_134_64) (kt := fun h64 => ?_) (kf := fun h64 => ?_)
      · simp only [mj_cnd, decide_eq_true_eq, decide_eq_false_iff_not, Bool.not_eq_true', Bool.not_eq_false', pz_0, Bool.not_eq_false, Bool.not_eq_true] at h64
        refine mj_b_iconst (hE := fe_134_71) (k := ?_)
        exact mj_b_retI (hE := fe_134_72) (hi := in_134) (by first | (simp [c_cvk, pz, h64]; done) | (simp_all [c_cvk, pz]; done) | rfl)
      · simp only [mj_cnd, decide_eq_true_eq, decide_eq_false_iff_not, Bool.not_eq_true', Bool.not_eq_false', pz_0, Bool.not_eq_false, Bool.not_eq_true] at h64
        refine mj_b_iload_n (hE := fe_134_67) (hv := rfl) (k := ?_)
        refine mj_b_goto (hE := fe_134_68) (k := ?_)
        exact mj_b_retI (hE := fe_134_72) (hi := in_134) (by first | (simp [c_cvk, pz, h64]; done) | (simp_all [c_cvk, pz]; done) | rfl)
    · simp [mj_cnd] at h
  | succ m ih =>
    intro i c hi
    have hw1 := hwh i (by omega)
    have hnx : ∀ Q c, mj_T pj_P 134 19 [.ref 87, .int p, .int k, .int c, .int (nI (i + 1))] [] (mz_SH L, I, R) Q → mj_T pj_P 134 56 [.ref 87, .int p, .int k, .int c, .int (nI i)] [] (mz_SH L, I, R) Q := by
      intro Q c hQ
      refine mj_b_iinc (hE := fe_134_56) (hv := rfl) (k := ?_)
      refine mj_b_goto (hE := fe_134_59) (k := ?_)
      exact (show mj_T pj_P 134 19 [.ref 87, .int p, .int k, .int c, .int (nI i + 1)] [] (mz_SH L, I, R) Q from (nI_succ i) ▸ hQ)
    refine mj_b_iload (hE := fe_134_19) (hv := rfl) (k := ?_)
    refine mj_b_rload_n (hE := fe_134_21) (hv := rfl) (k := ?_)
    refine mj_b_getQ (hE := fe_134_22) (hM := by assumption) (hv := by assumption) (k := ?_)
    refine mj_b_iconst (hE := fe_134_25) (k := ?_)
    refine mj_b_ialdN (hE := fe_134_26) (hM := h98) (ht := Or.inr rfl) (hj := show (1 : Int32) = nI 1 from rfl) (hc := by decide) (hn := by decide) (hv := hl1) (k := ?_)
    refine mj_b_if2 (hE := fe_134_27) (kt := fun h => ?_) (kf := fun h => ?_)
    · simp only [mj_cnd, decide_eq_true_eq] at h
      exact absurd h (nI_ge (by omega) (by omega))
    · refine mj_b_rload_n (hE := fe_134_30) (hv := rfl) (k := ?_)
      refine mj_b_iload (hE := fe_134_31) (hv := rfl) (k := ?_)
      refine mj_b_iload_n (hE := fe_134_33) (hv := rfl) (k := ?_)
      refine mj_b_callR (hE := fe_134_34) (hi := in_99) (h1 := g99 _ hm0 (by omega) hw1) (hc := mj_cok_v rfl rfl (by assumption)) (ha := rfl) (hr := rfl) ?_
      refine mj_b_if1 (hE := fe_134_37) (kt := fun h37 => ?_) (kf := fun h37 => ?_)
      · simp only [mj_cnd, decide_eq_true_eq, decide_eq_false_iff_not, Bool.not_eq_true', Bool.not_eq_false', pz_0, Bool.not_eq_false, Bool.not_eq_true] at h37
        exact hnx _ _ ((ih (i + 1) _ (by omega)).mono (fun s hs => by rw [hs]; simp [c_cvk, h37]))
      · simp only [mj_cnd, decide_eq_true_eq, decide_eq_false_iff_not, Bool.not_eq_true', Bool.not_eq_false', pz_0, Bool.not_eq_false, Bool.not_eq_true] at h37
        refine mj_b_iload_n (hE := fe_134_40) (hv := rfl) (k := ?_)
        refine mj_b_iload_n (hE := fe_134_41) (hv := rfl) (k := ?_)
        refine mj_b_if2 (hE := fe_134_42) (kt := fun h42 => ?_) (kf := fun h42 => ?_)
        · simp only [mj_cnd, decide_eq_true_eq, decide_eq_false_iff_not, Bool.not_eq_true', Bool.not_eq_false', pz_0, Bool.not_eq_false, Bool.not_eq_true] at h42
          refine mj_b_iinc (hE := fe_134_53) (hv := rfl) (k := ?_)
          exact hnx _ _ ((ih (i + 1) _ (by omega)).mono (fun s hs => by rw [hs]; simp [c_cvk, h37, h42]))
        · simp only [mj_cnd, decide_eq_true_eq, decide_eq_false_iff_not, Bool.not_eq_true', Bool.not_eq_false', pz_0, Bool.not_eq_false, Bool.not_eq_true] at h42
          refine mj_b_rload_n (hE := fe_134_45) (hv := rfl) (k := ?_)
          refine mj_b_getQ (hE := fe_134_46) (hM := by assumption) (hv := by assumption) (k := ?_)
          refine mj_b_iload (hE := fe_134_49) (hv := rfl) (k := ?_)
          refine mj_b_ialdN (hE := fe_134_51) (hM := by assumption) (ht := Or.inr rfl) (hj := rfl) (hc := by omega) (hn := by decide) (hv := rfl) (k := ?_)
          exact mj_b_retI (hE := fe_134_52) (hi := in_134) (by first | (simp [c_cvk, pz, h37, h42]; done) | (simp_all [c_cvk, pz]; done) | rfl)
def mm_cvg (I : Nat → Nat → Int32) (wh : Nat → Bool) (nl : Nat) (p k : Int32) : Int32 := if pf_path p = true ∧ (-1 : Int32) ≤ k then c_cvk (mm_cov I wh p) (fun i => I 93 i) k 0 nl 0 else -1
/-- LockedTreeModel.covering -/
theorem g134 (p k : Int32) (hm : mm_ok R) (hk : mm_lk nl ns wh I) :
    mj_G pj_P 134 [.ref 87, .int p, .int k] (mz_SH L, I, R) (fun r => r = (some (.int (mm_cvg I wh nl p k)), (mz_SH L, I, R))) := by
  refine mj_enter in_134 (L := [.ref 87, .int p, .int k, .retAddr 0, .retAddr 0]) rfl ?_
  refine mj_b_iload_n (hE := fe_134_0) (hv := rfl) (k := ?_)
  refine mj_b_callR (hE := fe_134_1) (hi := in_92) (h1 := g92 _ _) (hc := mj_cok_s rfl) (ha := rfl) (hr := rfl) ?_
  refine mj_b_if1 (hE := fe_134_4) (kt := fun h4 => ?_) (kf := fun h4 => ?_)
  · simp only [mj_cnd, decide_eq_true_eq, decide_eq_false_iff_not, Bool.not_eq_true', Bool.not_eq_false', pz_0, Bool.not_eq_false, Bool.not_eq_true] at h4
    refine mj_b_iconst (hE := fe_134_12) (k := ?_)
    exact mj_b_retI (hE := fe_134_13) (hi := in_134) (by first | (simp [mm_cvg, pz, h4]; done) | (simp_all [mm_cvg, pz]; done) | rfl)
  · simp only [mj_cnd, decide_eq_true_eq, decide_eq_false_iff_not, Bool.not_eq_true', Bool.not_eq_false', pz_0, Bool.not_eq_false, Bool.not_eq_true] at h4
    refine mj_b_iload_n (hE := fe_134_7) (hv := rfl) (k := ?_)
    refine mj_b_iconst (hE := fe_134_8) (k := ?_)
    refine mj_b_if2 (hE := fe_134_9) (kt := fun h9 => ?_) (kf := fun h9 => ?_)
    · simp only [mj_cnd, decide_eq_true_eq, decide_eq_false_iff_not, Bool.not_eq_true', Bool.not_eq_false', pz_0, Bool.not_eq_false, Bool.not_eq_true] at h9
      refine mj_b_iconst (hE := fe_134_14) (k := ?_)
      refine mj_b_istore_n (hE := fe_134_15) (hx := Nat.le_of_ble_eq_true rfl) (k := ?_)
      refine mj_b_iconst (hE := fe_134_16) (k := ?_)
      refine mj_b_istore (hE := fe_134_17) (hx := Nat.le_of_ble_eq_true rfl) (k := ?_)
      exact (l134 hm hk nl 0 0 (by omega)).mono (fun s hs => by rw [hs]; simp [mm_cvg, h4, h9])
    · simp only [mj_cnd, decide_eq_true_eq, decide_eq_false_iff_not, Bool.not_eq_true', Bool.not_eq_false', pz_0, Bool.not_eq_false, Bool.not_eq_true] at h9
      refine mj_b_iconst (hE := fe_134_12) (k := ?_)
      exact mj_b_retI (hE := fe_134_13) (hi := in_134) (by first | (simp [mm_cvg, pz, h4, h9]; done) | (simp_all [mm_cvg, pz]; done) | rfl)
end MT
