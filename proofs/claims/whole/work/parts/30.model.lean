/-! ===== the model: questions ===== -/
theorem sm_87 (L : Nat) : (mz_SH L)[87]? = some (6, 23) := sh_at (by decide +kernel)
theorem sm_88 (L : Nat) : (mz_SH L)[88]? = some (65, 40) := sh_at (by decide +kernel)
theorem sm_89 (L : Nat) : (mz_SH L)[89]? = some (66, 40) := sh_at (by decide +kernel)
theorem sm_90 (L : Nat) : (mz_SH L)[90]? = some (65, 40) := sh_at (by decide +kernel)
theorem sm_91 (L : Nat) : (mz_SH L)[91]? = some (65, 40) := sh_at (by decide +kernel)
theorem sm_92 (L : Nat) : (mz_SH L)[92]? = some (65, 120) := sh_at (by decide +kernel)
theorem sm_93 (L : Nat) : (mz_SH L)[93]? = some (65, 20) := sh_at (by decide +kernel)
theorem sm_94 (L : Nat) : (mz_SH L)[94]? = some (65, 20) := sh_at (by decide +kernel)
theorem sm_95 (L : Nat) : (mz_SH L)[95]? = some (66, 20) := sh_at (by decide +kernel)
theorem sm_96 (L : Nat) : (mz_SH L)[96]? = some (66, 20) := sh_at (by decide +kernel)
theorem sm_97 (L : Nat) : (mz_SH L)[97]? = some (65, 20) := sh_at (by decide +kernel)
theorem sm_98 (L : Nat) : (mz_SH L)[98]? = some (65, 10) := sh_at (by decide +kernel)
theorem sm_99 (L : Nat) : (mz_SH L)[99]? = some (67, 24) := sh_at (by decide +kernel)
theorem sm_100 (L : Nat) : (mz_SH L)[100]? = some (65, 12) := sh_at (by decide +kernel)
theorem sm_101 (L : Nat) : (mz_SH L)[101]? = some (65, 16) := sh_at (by decide +kernel)
/-- the model's references -/
def mm_ok (R : Nat → Nat → Option Nat) : Prop := R 87 0 = some 88 ∧ R 87 1 = some 89 ∧ R 87 2 = some 90 ∧ R 87 3 = some 91 ∧ R 87 4 = some 92 ∧ R 87 5 = some 93 ∧ R 87 6 = some 94 ∧ R 87 7 = some 95 ∧ R 87 8 = some 96 ∧ R 87 9 = some 97 ∧ R 87 10 = some 98 ∧ R 87 11 = some 99 ∧ R 87 16 = some 100 ∧ R 87 21 = some 101
def mv_ix (sd : Nat) (o : Option Nat) : Int32 := match o with
  | none => -1
  | some i => nI (sd + i)
/-- the last of the rows from i on, k of them, whose path is p -/
def mf_fnd (I : Nat → Nat → Int32) (sd : Nat) (p : Int32) : Nat → Nat → Option Nat → Option Nat
  | _, 0, acc => acc
  | i, k + 1, acc => mf_fnd I sd p (i + 1) k (if I 88 (sd + i) = p then some i else acc)
section MD
variable {L n sd nl ns : Nat} {I : Nat → Nat → Int32} {R : Nat → Nat → Option Nat} {wh : Nat → Bool}
set_option maxHeartbeats 1000000 in
theorem l101 {p : Int32} (hm : mm_ok R) (hsd : sd = 0 ∨ sd = 20) (hn : I 98 (sd / 4) = nI n) (hn13 : n ≤ 13) :
    ∀ (k i : Nat) (acc : Option Nat), i + k = n → mj_T pj_P 101 5 [.ref 87, .int p, .int (nI sd), .int (mv_ix sd acc), .int (nI i)] [] (mz_SH L, I, R) (fun r => r = (some (.int (mv_ix sd (mf_fnd I sd p i k acc))), (mz_SH L, I, R))) := by
  obtain ⟨q0, q1, q2, q3, q4, q5, q6, q7, q8, q9, q10, q11, q16, q21⟩ := hm
  have h87 := sm_87 L
  have h88 := sm_88 L
  have h98 := sm_98 L
  have hdiv : nI sd / 4 = nI (sd / 4) := by rcases hsd with rfl | rfl <;> decide
  have hsd4 : sd / 4 < 10 := by omega
  intro k
  induction k with
  | zero =>
    intro i acc hi
    have hin : i = n := by omega
    subst hin
    refine mj_b_iload (hE := fe_101_5) (hv := rfl) (k := ?_)
    refine mj_b_rload_n (hE := fe_101_7) (hv := rfl) (k := ?_)
    refine mj_b_getQ (hE := fe_101_8) (hM := by assumption) (hv := by assumption) (k := ?_)
    refine mj_b_iload_n (hE := fe_101_11) (hv := rfl) (k := ?_)
    refine mj_b_iconst (hE := fe_101_12) (k := ?_)
    refine mj_b_idiv (hE := fe_101_13) (hb := by decide) (k := ?_)
    refine mj_b_ialdN (hE := fe_101_14) (hM := h98) (ht := Or.inr rfl) (hj := hdiv) (hc := hsd4) (hn := by decide) (hv := hn) (k := ?_)
    refine mj_b_if2 (hE := fe_101_15) (kt := fun h => ?_) (kf := fun h => ?_)
    · refine mj_b_iload_n (hE := fe_101_42) (hv := rfl) (k := ?_)
      exact mj_b_retI (hE := fe_101_43) (hi := in_101) rfl
    · simp [mj_cnd] at h
  | succ k ih =>
    intro i acc hi
    have hnx : ∀ Q v, mj_T pj_P 101 5 [.ref 87, .int p, .int (nI sd), v, .int (nI (i + 1))] [] (mz_SH L, I, R) Q → mj_T pj_P 101 36 [.ref 87, .int p, .int (nI sd), v, .int (nI i)] [] (mz_SH L, I, R) Q := by
      intro Q v hQ
      refine mj_b_iinc (hE := fe_101_36) (hv := rfl) (k := ?_)
      refine mj_b_goto (hE := fe_101_39) (k := ?_)
      exact (show mj_T pj_P 101 5 [.ref 87, .int p, .int (nI sd), v, .int (nI i + 1)] [] (mz_SH L, I, R) Q from (nI_succ i) ▸ hQ)
    refine mj_b_iload (hE := fe_101_5) (hv := rfl) (k := ?_)
    refine mj_b_rload_n (hE := fe_101_7) (hv := rfl) (k := ?_)
    refine mj_b_getQ (hE := fe_101_8) (hM := by assumption) (hv := by assumption) (k := ?_)
    refine mj_b_iload_n (hE := fe_101_11) (hv := rfl) (k := ?_)
    refine mj_b_iconst (hE := fe_101_12) (k := ?_)
    refine mj_b_idiv (hE := fe_101_13) (hb := by decide) (k := ?_)
    refine mj_b_ialdN (hE := fe_101_14) (hM := h98) (ht := Or.inr rfl) (hj := hdiv) (hc := hsd4) (hn := by decide) (hv := hn) (k := ?_)
    refine mj_b_if2 (hE := fe_101_15) (kt := fun h => ?_) (kf := fun h => ?_)
    · simp only [mj_cnd, decide_eq_true_eq] at h
      exact absurd h (nI_ge (by omega) (by omega))
    · refine mj_b_rload_n (hE := fe_101_18) (hv := rfl) (k := ?_)
      refine mj_b_getQ (hE := fe_101_19) (hM := by assumption) (hv := by assumption) (k := ?_)
      refine mj_b_iload_n (hE := fe_101_22) (hv := rfl) (k := ?_)
      refine mj_b_iload (hE := fe_101_23) (hv := rfl) (k := ?_)
      refine mj_b_iadd (hE := fe_101_25) (k := ?_)
      refine mj_b_ialdN (hE := fe_101_26) (hM := h88) (ht := Or.inr rfl) (hj := nI_add sd i) (hc := by omega) (hn := by decide) (hv := rfl) (k := ?_)
      refine mj_b_iload_n (hE := fe_101_27) (hv := rfl) (k := ?_)
      refine mj_b_if2 (hE := fe_101_28) (kt := fun g => ?_) (kf := fun g => ?_)
      · simp only [mj_cnd, Bool.not_eq_true', decide_eq_false_iff_not] at g
        exact hnx _ _ ((ih (i + 1) acc (by omega)).mono (fun s hs => by rw [hs]; simp only [mf_fnd]; rw [if_neg g]))
      · simp only [mj_cnd, Bool.not_eq_false', decide_eq_true_eq] at g
        refine mj_b_iload_n (hE := fe_101_31) (hv := rfl) (k := ?_)
        refine mj_b_iload (hE := fe_101_32) (hv := rfl) (k := ?_)
        refine mj_b_iadd (hE := fe_101_34) (k := ?_)
        refine mj_b_istore_n (hE := fe_101_35) (hx := Nat.le_of_ble_eq_true rfl) (k := ?_)
        refine (show mj_T pj_P 101 36 [.ref 87, .int p, .int (nI sd), .int (nI sd + nI i), .int (nI i)] [] (mz_SH L, I, R) _ from ?_)
        rw [nI_add]
        exact hnx _ _ ((ih (i + 1) (some i) (by omega)).mono (fun s hs => by rw [hs]; simp only [mf_fnd]; rw [if_pos g]))
/-- LockedTreeModel.find -/
theorem g101 (p : Int32) (hm : mm_ok R) (hsd : sd = 0 ∨ sd = 20) (hn : I 98 (sd / 4) = nI n) (hn13 : n ≤ 13) :
    mj_G pj_P 101 [.ref 87, .int p, .int (nI sd)] (mz_SH L, I, R) (fun r => r = (some (.int (mv_ix sd (mf_fnd I sd p 0 n none))), (mz_SH L, I, R))) := by
  refine mj_enter in_101 (L := [.ref 87, .int p, .int (nI sd), .retAddr 0, .retAddr 0]) rfl ?_
  refine mj_b_iconst (hE := fe_101_0) (k := ?_)
  refine mj_b_istore_n (hE := fe_101_1) (hx := Nat.le_of_ble_eq_true rfl) (k := ?_)
  refine mj_b_iconst (hE := fe_101_2) (k := ?_)
  refine mj_b_istore (hE := fe_101_3) (hx := Nat.le_of_ble_eq_true rfl) (k := ?_)
  exact l101 hm hsd hn hn13 n 0 none (by omega)
def mm_cov (I : Nat → Nat → Int32) (wh : Nat → Bool) (p : Int32) (l : Nat) : Bool := decide (I 94 l = p) || (wh l && pf_below p (I 94 l))
/-- LockedTreeModel.covers -/
theorem g99 {l : Nat} (p : Int32) (hm : mm_ok R) (hl : l < 20) (hw : I 96 l = pz (wh l)) :
    mj_G pj_P 99 [.ref 87, .int (nI l), .int p] (mz_SH L, I, R) (fun r => r = (some (.int (pz (mm_cov I wh p l))), (mz_SH L, I, R))) := by
  obtain ⟨q0, q1, q2, q3, q4, q5, q6, q7, q8, q9, q10, q11, q16, q21⟩ := hm
  have h87 := sm_87 L
  have h94 := sm_94 L
  have h96 := sm_96 L
  refine mj_enter in_99 (L := [.ref 87, .int (nI l), .int p]) rfl ?_
  refine mj_b_rload_n (hE := fe_99_0) (hv := rfl) (k := ?_)
  refine mj_b_getQ (hE := fe_99_1) (hM := by assumption) (hv := by assumption) (k := ?_)
  refine mj_b_iload_n (hE := fe_99_4) (hv := rfl) (k := ?_)
  refine mj_b_ialdN (hE := fe_99_5) (hM := by assumption) (ht := Or.inr rfl) (hj := rfl) (hc := by omega) (hn := by decide) (hv := rfl) (k := ?_)
  refine mj_b_iload_n (hE := fe_99_6) (hv := rfl) (k := ?_)
  refine mj_b_if2 (hE := fe_99_7) (kt := fun h7 => ?_) (kf := fun h7 => ?_)
  · simp only [mj_cnd, decide_eq_true_eq, decide_eq_false_iff_not, Bool.not_eq_true', Bool.not_eq_false', pz_0, Bool.not_eq_false, Bool.not_eq_true] at h7
    refine mj_b_iconst (hE := fe_99_32) (k := ?_)
    refine mj_b_goto (hE := fe_99_33) (k := ?_)
    exact mj_b_retZ (hE := fe_99_37) (hi := in_99) (by first | decide | exact pz_01 _) (by first | (simp [mm_cov, pz, h7]; done) | (simp_all [mm_cov, pz]; done) | rfl)
  · simp only [mj_cnd, decide_eq_true_eq, decide_eq_false_iff_not, Bool.not_eq_true', Bool.not_eq_false', pz_0, Bool.not_eq_false, Bool.not_eq_true] at h7
    refine mj_b_rload_n (hE := fe_99_10) (hv := rfl) (k := ?_)
    refine mj_b_getQ (hE := fe_99_11) (hM := by assumption) (hv := by assumption) (k := ?_)
    refine mj_b_iload_n (hE := fe_99_14) (hv := rfl) (k := ?_)
    refine mj_b_baldN (hE := fe_99_15) (hM := by assumption) (hj := rfl) (hc := by omega) (hn := by decide) (hv := by assumption) (k := ?_)
    refine mj_b_if1 (hE := fe_99_16) (kt := fun h16 => ?_) (kf := fun h16 => ?_)
    · simp only [mj_cnd, decide_eq_true_eq, decide_eq_false_iff_not, Bool.not_eq_true', Bool.not_eq_false', pz_0, Bool.not_eq_false, Bool.not_eq_true] at h16
      refine mj_b_iconst (hE := fe_99_36) (k := ?_)
      exact mj_b_retZ (hE := fe_99_37) (hi := in_99) (by first | decide | exact pz_01 _) (by first | (simp [mm_cov, pz, h7, h16]; done) | (simp_all [mm_cov, pz]; done) | rfl)
    · simp only [mj_cnd, decide_eq_true_eq, decide_eq_false_iff_not, Bool.not_eq_true', Bool.not_eq_false', pz_0, Bool.not_eq_false, Bool.not_eq_true] at h16
      refine mj_b_iload_n (hE := fe_99_19) (hv := rfl) (k := ?_)
      refine mj_b_rload_n (hE := fe_99_20) (hv := rfl) (k := ?_)
      refine mj_b_getQ (hE := fe_99_21) (hM := by assumption) (hv := by assumption) (k := ?_)
      refine mj_b_iload_n (hE := fe_99_24) (hv := rfl) (k := ?_)
      refine mj_b_ialdN (hE := fe_99_25) (hM := by assumption) (ht := Or.inr rfl) (hj := rfl) (hc := by omega) (hn := by decide) (hv := rfl) (k := ?_)
      refine mj_b_callR (hE := fe_99_26) (hi := in_100) (h1 := g100 _ _ _) (hc := mj_cok_s rfl) (ha := rfl) (hr := rfl) ?_
      refine mj_b_if1 (hE := fe_99_29) (kt := fun h29 => ?_) (kf := fun h29 => ?_)
      · simp only [mj_cnd, decide_eq_true_eq, decide_eq_false_iff_not, Bool.not_eq_true', Bool.not_eq_false', pz_0, Bool.not_eq_false, Bool.not_eq_true] at h29
        refine mj_b_iconst (hE := fe_99_36) (k := ?_)
        exact mj_b_retZ (hE := fe_99_37) (hi := in_99) (by first | decide | exact pz_01 _) (by first | (simp [mm_cov, pz, h7, h16, h29]; done) | (simp_all [mm_cov, pz]; done) | rfl)
      · simp only [mj_cnd, decide_eq_true_eq, decide_eq_false_iff_not, Bool.not_eq_true', Bool.not_eq_false', pz_0, Bool.not_eq_false, Bool.not_eq_true] at h29
        refine mj_b_iconst (hE := fe_99_32) (k := ?_)
        refine mj_b_goto (hE := fe_99_33) (k := ?_)
        exact mj_b_retZ (hE := fe_99_37) (hi := in_99) (by first | decide | exact pz_01 _) (by first | (simp [mm_cov, pz, h7, h16, h29]; done) | (simp_all [mm_cov, pz]; done) | rfl)
set_option maxHeartbeats 1000000 in
theorem l106 {t : Int32} (hm : mm_ok R) (hn : I 87 17 = nI ns) (hn12 : ns ≤ 12) :
    ∀ (k i : Nat) (fd : Bool), i + k = ns → mj_T pj_P 106 4 [.ref 87, .int t, .int (pz fd), .int (nI i)] [] (mz_SH L, I, R) (fun r => r = (some (.int (pz (fd || pa_any (fun i => decide (I 100 i = t)) i k))), (mz_SH L, I, R))) := by
  obtain ⟨q0, q1, q2, q3, q4, q5, q6, q7, q8, q9, q10, q11, q16, q21⟩ := hm
  have h87 := sm_87 L
  have h100 := sm_100 L
  intro k
  induction k with
  | zero =>
    intro i fd hi
    have hin : i = ns := by omega
    subst hin
    refine mj_b_iload_n (hE := fe_106_4) (hv := rfl) (k := ?_)
    refine mj_b_rload_n (hE := fe_106_5) (hv := rfl) (k := ?_)
    refine mj_b_getV (hE := fe_106_6) (hM := by assumption) (hv := by assumption) (k := ?_)
    refine mj_b_if2 (hE := fe_106_9) (kt := fun h => ?_) (kf := fun h => ?_)
    · refine mj_b_iload_n (hE := fe_106_38) (hv := rfl) (k := ?_)
      exact mj_b_retZ (hE := fe_106_39) (hi := in_106) (pz_01 _) (by simp [pa_any])
    · simp [mj_cnd] at h
  | succ k ih =>
    intro i fd hi
    have hnx : ∀ Q v w, mj_T pj_P 106 4 [.ref 87, .int t, .int v, .int (nI (i + 1))] [] (mz_SH L, I, R) Q → mj_T pj_P 106 31 [.ref 87, .int t, w, .int (nI i)] [.int v] (mz_SH L, I, R) Q := by
      intro Q v w hQ
      refine mj_b_istore_n (hE := fe_106_31) (hx := Nat.le_of_ble_eq_true rfl) (k := ?_)
      refine mj_b_iinc (hE := fe_106_32) (hv := rfl) (k := ?_)
      refine mj_b_goto (hE := fe_106_35) (k := ?_)
      exact (show mj_T pj_P 106 4 [.ref 87, .int t, .int v, .int (nI i + 1)] [] (mz_SH L, I, R) Q from (nI_succ i) ▸ hQ)
    refine mj_b_iload_n (hE := fe_106_4) (hv := rfl) (k := ?_)
    refine mj_b_rload_n (hE := fe_106_5) (hv := rfl) (k := ?_)
    refine mj_b_getV (hE := fe_106_6) (hM := by assumption) (hv := by assumption) (k := ?_)
    refine mj_b_if2 (hE := fe_106_9) (kt := fun h => ?_) (kf := fun h => ?_)
    · simp only [mj_cnd, decide_eq_true_eq] at h
      exact absurd h (nI_ge (by omega) (by omega))
    · refine mj_b_iload_n (hE := fe_106_12) (hv := rfl) (k := ?_)
      refine mj_b_if1 (hE := fe_106_13) (kt := fun h13 => ?_) (kf := fun h13 => ?_)
      · simp only [mj_cnd, decide_eq_true_eq, decide_eq_false_iff_not, Bool.not_eq_true', Bool.not_eq_false', pz_0, Bool.not_eq_false, Bool.not_eq_true] at h13
        refine mj_b_iconst (hE := fe_106_26) (k := ?_)
        refine mj_b_goto (hE := fe_106_27) (k := ?_)
        exact hnx _ (pz true) _ ((ih (i + 1) true (by omega)).mono (fun s hs => by rw [hs]; simp [pa_any, h13]))
      · simp only [mj_cnd, decide_eq_true_eq, decide_eq_false_iff_not, Bool.not_eq_true', Bool.not_eq_false', pz_0, Bool.not_eq_false, Bool.not_eq_true] at h13
        refine mj_b_rload_n (hE := fe_106_16) (hv := rfl) (k := ?_)
        refine mj_b_getQ (hE := fe_106_17) (hM := by assumption) (hv := by assumption) (k := ?_)
        refine mj_b_iload_n (hE := fe_106_20) (hv := rfl) (k := ?_)
        refine mj_b_ialdN (hE := fe_106_21) (hM := by assumption) (ht := Or.inr rfl) (hj := rfl) (hc := by omega) (hn := by decide) (hv := rfl) (k := ?_)
        refine mj_b_iload_n (hE := fe_106_22) (hv := rfl) (k := ?_)
        refine mj_b_if2 (hE := fe_106_23) (kt := fun h23 => ?_) (kf := fun h23 => ?_)
        · simp only [mj_cnd, decide_eq_true_eq, decide_eq_false_iff_not, Bool.not_eq_true', Bool.not_eq_false', pz_0, Bool.not_eq_false, Bool.not_eq_true] at h23
          refine mj_b_iconst (hE := fe_106_30) (k := ?_)
          exact hnx _ (pz false) _ ((ih (i + 1) false (by omega)).mono (fun s hs => by rw [hs]; simp [pa_any, h13, h23]))
        · simp only [mj_cnd, decide_eq_true_eq, decide_eq_false_iff_not, Bool.not_eq_true', Bool.not_eq_false', pz_0, Bool.not_eq_false, Bool.not_eq_true] at h23
          refine mj_b_iconst (hE := fe_106_26) (k := ?_)
          refine mj_b_goto (hE := fe_106_27) (k := ?_)
          exact hnx _ (pz true) _ ((ih (i + 1) true (by omega)).mono (fun s hs => by rw [hs]; simp [pa_any, h13, h23]))
def mm_sub (I : Nat → Nat → Int32) (ns : Nat) (t : Int32) : Bool := pa_any (fun i => decide (I 100 i = t)) 0 ns
/-- LockedTreeModel.isSubmitted -/
theorem g106 (t : Int32) (hm : mm_ok R) (hn : I 87 17 = nI ns) (hn12 : ns ≤ 12) :
    mj_G pj_P 106 [.ref 87, .int t] (mz_SH L, I, R) (fun r => r = (some (.int (pz (mm_sub I ns t))), (mz_SH L, I, R))) := by
  refine mj_enter in_106 (L := [.ref 87, .int t, .retAddr 0, .retAddr 0]) rfl ?_
  refine mj_b_iconst (hE := fe_106_0) (k := ?_)
  refine mj_b_istore_n (hE := fe_106_1) (hx := Nat.le_of_ble_eq_true rfl) (k := ?_)
  refine mj_b_iconst (hE := fe_106_2) (k := ?_)
  refine mj_b_istore_n (hE := fe_106_3) (hx := Nat.le_of_ble_eq_true rfl) (k := ?_)
  exact (l106 hm hn hn12 ns 0 false (by omega)).mono (fun s hs => by rw [hs]; simp [mm_sub])
/-- the model's locks: nl of them, which of them deep; ns tokens submitted -/
def mm_lk (nl ns : Nat) (wh : Nat → Bool) (I : Nat → Nat → Int32) : Prop := (I 98 1 = nI nl ∧ nl ≤ 6) ∧ (I 87 17 = nI ns ∧ ns ≤ 12) ∧ ∀ l, l < nl → I 96 l = pz (wh l)
def mm_csb (I : Nat → Nat → Int32) (wh : Nat → Bool) (ns : Nat) (p : Int32) (l : Nat) : Bool := mm_cov I wh p l && mm_sub I ns (I 93 l)
set_option maxHeartbeats 2000000 in
theorem l105 {p : Int32} (hm : mm_ok R) (hk : mm_lk nl ns wh I) :
    ∀ (k i : Nat) (sm op : Bool), i + k = nl → mj_T pj_P 105 7 [.ref 87, .int p, .int (pz sm), .int (pz op), .int (nI i)] [] (mz_SH L, I, R) (fun r => r = (some (.int (pz ((sm || pa_any (mm_cov I wh p) i k) && !(op || pa_any (mm_csb I wh ns p) i k)))), (mz_SH L, I, R))) := by
  have hm0 := hm
  obtain ⟨q0, q1, q2, q3, q4, q5, q6, q7, q8, q9, q10, q11, q16, q21⟩ := hm
  obtain ⟨⟨hl1, hl2⟩, ⟨hs1, hs2⟩, hwh⟩ := hk
  have h87 := sm_87 L
  have h98 := sm_98 L
  have h93 := sm_93 L
  intro k
  induction k with
  | zero =>
    intro i sm op hi
    have hin : i = nl := by omega
    subst hin
    refine mj_b_iload (hE := fe_105_7) (hv := rfl) (k := ?_)
    refine mj_b_rload_n (hE := fe_105_9) (hv := rfl) (k := ?_)
    refine mj_b_getQ (hE := fe_105_10) (hM := by assumption) (hv := by assumption) (k := ?_)
    refine mj_b_iconst (hE := fe_105_13) (k := ?_)
    refine mj_b_ialdN (hE := fe_105_14) (hM := h98) (ht := Or.inr rfl) (hj := show (1 : Int32) = nI 1 from rfl) (hc := by decide) (hn := by decide) (hv := hl1) (k := ?_)
    refine mj_b_if2 (hE := fe_105_15) (kt := fun h => ?_) (kf := fun h => ?_)
    · refine mj_b_iload_n (hE := fe_105_78) (hv := rfl) (k := ?_)
      refine mj_b_if1 (hE := fe_105_79) (kt := fun h79 => ?_) (kf := fun h79 => ?_)
      · simp only [mj_cnd, decide_eq_true_eq, decide_eq_false_iff_not, Bool.not_eq_true', Bool.not_eq_false', pz_0, Bool.not_eq_false, Bool.not_eq_true] at h79
        refine mj_b_iconst (hE := fe_105_90) (k := ?_)
        exact mj_b_retZ (hE := fe_105_91) (hi := in_105) (by first | decide | exact pz_01 _) (by first | (simp [pa_any, pz, h79]; done) | (simp_all [pa_any, pz]; done) | rfl)
      · simp only [mj_cnd, decide_eq_true_eq, decide_eq_false_iff_not, Bool.not_eq_true', Bool.not_eq_false', pz_0, Bool.not_eq_false, Bool.not_eq_true] at h79
        refine mj_b_iload_n (hE := fe_105_82) (hv := rfl) (k := ?_)
        refine mj_b_if1 (hE := fe_105_83) (kt := fun h83 => ?_) (kf := fun h83 => ?_)
        · simp only [mj_cnd, decide_eq_true_eq, decide_eq_false_iff_not, Bool.not_eq_true', Bool.not_eq_false', pz_0, Bool.not_eq_false, Bool.not_eq_true] at h83
          refine mj_b_iconst (hE := fe_105_90) (k := ?_)
          exact mj_b_retZ (hE := fe_105_91) (hi := in_105) (by first | decide | exact pz_01 _) (by first | (simp [pa_any, pz, h79, h83]; done) | (simp_all [pa_any, pz]; done) | rfl)
        · simp only [mj_cnd, decide_eq_true_eq, decide_eq_false_iff_not, Bool.not_eq_true', Bool.not_eq_false', pz_0, Bool.not_eq_false, Bool.not_eq_true] at h83
          refine mj_b_iconst (hE := fe_105_86) (k := ?_)
          refine mj_b_goto (hE := fe_105_87) (k := ?_)
          exact mj_b_retZ (hE := fe_105_91) (hi := in_105) (by first | decide | exact pz_01 _) (by first | (simp [pa_any, pz, h79, h83]; done) | (simp_all [pa_any, pz]; done) | rfl)
    · simp [mj_cnd] at h
  | succ k ih =>
    intro i sm op hi
    have hw1 := hwh i (by omega)
    have hnx : ∀ Q v a b, mj_T pj_P 105 7 [.ref 87, .int p, a, .int v, .int (nI (i + 1))] [] (mz_SH L, I, R) Q → mj_T pj_P 105 71 [.ref 87, .int p, a, b, .int (nI i)] [.int v] (mz_SH L, I, R) Q := by
      intro Q v a b hQ
      refine mj_b_istore_n (hE := fe_105_71) (hx := Nat.le_of_ble_eq_true rfl) (k := ?_)
      refine mj_b_iinc (hE := fe_105_72) (hv := rfl) (k := ?_)
      refine mj_b_goto (hE := fe_105_75) (k := ?_)
      exact (show mj_T pj_P 105 7 [.ref 87, .int p, a, .int v, .int (nI i + 1)] [] (mz_SH L, I, R) Q from (nI_succ i) ▸ hQ)
    have h37 : ∀ (sm2 : Bool) (a : Value), mj_T pj_P 105 37 [.ref 87, .int p, a, .int (pz op), .int (nI i)] [.int (pz sm2)] (mz_SH L, I, R) (fun r => r = (some (.int (pz ((sm2 || pa_any (mm_cov I wh p) (i + 1) k) && !(op || (mm_csb I wh ns p i || pa_any (mm_csb I wh ns p) (i + 1) k))))), (mz_SH L, I, R))) := by
      intro sm2 a
      refine mj_b_istore_n (hE := fe_105_37) (hx := Nat.le_of_ble_eq_true rfl) (k := ?_)
      refine mj_b_iload_n (hE := fe_105_38) (hv := rfl) (k := ?_)
      refine mj_b_if1 (hE := fe_105_39) (kt := fun h39 => ?_) (kf := fun h39 => ?_)
      · simp only [mj_cnd, decide_eq_true_eq, decide_eq_false_iff_not, Bool.not_eq_true', Bool.not_eq_false', pz_0, Bool.not_eq_false, Bool.not_eq_true] at h39
        refine mj_b_iconst (hE := fe_105_66) (k := ?_)
        refine mj_b_goto (hE := fe_105_67) (k := ?_)
        exact hnx _ (pz true) _ _ ((ih (i + 1) sm2 true (by omega)).mono (fun s hs => by rw [hs]; simp [mm_csb, h39]))
      · simp only [mj_cnd, decide_eq_true_eq, decide_eq_false_iff_not, Bool.not_eq_true', Bool.not_eq_false', pz_0, Bool.not_eq_false, Bool.not_eq_true] at h39
        refine mj_b_rload_n (hE := fe_105_42) (hv := rfl) (k := ?_)
        refine mj_b_iload (hE := fe_105_43) (hv := rfl) (k := ?_)
        refine mj_b_iload_n (hE := fe_105_45) (hv := rfl) (k := ?_)
        refine mj_b_callR (hE := fe_105_46) (hi := in_99) (h1 := g99 _ hm0 (by omega) hw1) (hc := mj_cok_v rfl rfl (by assumption)) (ha := rfl) (hr := rfl) ?_
        refine mj_b_if1 (hE := fe_105_49) (kt := fun h49 => ?_) (kf := fun h49 => ?_)
        · simp only [mj_cnd, decide_eq_true_eq, decide_eq_false_iff_not, Bool.not_eq_true', Bool.not_eq_false', pz_0, Bool.not_eq_false, Bool.not_eq_true] at h49
          refine mj_b_iconst (hE := fe_105_70) (k := ?_)
          exact hnx _ (pz false) _ _ ((ih (i + 1) sm2 false (by omega)).mono (fun s hs => by rw [hs]; simp [mm_csb, h39, h49]))
        · simp only [mj_cnd, decide_eq_true_eq, decide_eq_false_iff_not, Bool.not_eq_true', Bool.not_eq_false', pz_0, Bool.not_eq_false, Bool.not_eq_true] at h49
          refine mj_b_rload_n (hE := fe_105_52) (hv := rfl) (k := ?_)
          refine mj_b_rload_n (hE := fe_105_53) (hv := rfl) (k := ?_)
          refine mj_b_getQ (hE := fe_105_54) (hM := by assumption) (hv := by assumption) (k := ?_)
          refine mj_b_iload (hE := fe_105_57) (hv := rfl) (k := ?_)
          refine mj_b_ialdN (hE := fe_105_59) (hM := by assumption) (ht := Or.inr rfl) (hj := rfl) (hc := by omega) (hn := by decide) (hv := rfl) (k := ?_)
          refine mj_b_callR (hE := fe_105_60) (hi := in_106) (h1 := g106 _ hm0 hs1 hs2) (hc := mj_cok_v rfl rfl (by assumption)) (ha := rfl) (hr := rfl) ?_
          refine mj_b_if1 (hE := fe_105_63) (kt := fun h63 => ?_) (kf := fun h63 => ?_)
          · simp only [mj_cnd, decide_eq_true_eq, decide_eq_false_iff_not, Bool.not_eq_true', Bool.not_eq_false', pz_0, Bool.not_eq_false, Bool.not_eq_true] at h63
            refine mj_b_iconst (hE := fe_105_70) (k := ?_)
            exact hnx _ (pz false) _ _ ((ih (i + 1) sm2 false (by omega)).mono (fun s hs => by rw [hs]; simp [mm_csb, h39, h49, h63]))
          · simp only [mj_cnd, decide_eq_true_eq, decide_eq_false_iff_not, Bool.not_eq_true', Bool.not_eq_false', pz_0, Bool.not_eq_false, Bool.not_eq_true] at h63
            refine mj_b_iconst (hE := fe_105_66) (k := ?_)
            refine mj_b_goto (hE := fe_105_67) (k := ?_)
            exact hnx _ (pz true) _ _ ((ih (i + 1) sm2 true (by omega)).mono (fun s hs => by rw [hs]; simp [mm_csb, h39, h49, h63]))
    refine mj_b_iload (hE := fe_105_7) (hv := rfl) (k := ?_)
    refine mj_b_rload_n (hE := fe_105_9) (hv := rfl) (k := ?_)
    refine mj_b_getQ (hE := fe_105_10) (hM := by assumption) (hv := by assumption) (k := ?_)
    refine mj_b_iconst (hE := fe_105_13) (k := ?_)
    refine mj_b_ialdN (hE := fe_105_14) (hM := h98) (ht := Or.inr rfl) (hj := show (1 : Int32) = nI 1 from rfl) (hc := by decide) (hn := by decide) (hv := hl1) (k := ?_)
    refine mj_b_if2 (hE := fe_105_15) (kt := fun h => ?_) (kf := fun h => ?_)
    · simp only [mj_cnd, decide_eq_true_eq] at h
      exact absurd h (nI_ge (by omega) (by omega))
    · refine mj_b_iload_n (hE := fe_105_18) (hv := rfl) (k := ?_)
      refine mj_b_if1 (hE := fe_105_19) (kt := fun h19 => ?_) (kf := fun h19 => ?_)
      · simp only [mj_cnd, decide_eq_true_eq, decide_eq_false_iff_not, Bool.not_eq_true', Bool.not_eq_false', pz_0, Bool.not_eq_false, Bool.not_eq_true] at h19
        refine mj_b_iconst (hE := fe_105_32) (k := ?_)
        refine mj_b_goto (hE := fe_105_33) (k := ?_)
        exact (h37 true _).mono (fun s hs => by rw [hs]; simp [pa_any, h19])
      · simp only [mj_cnd, decide_eq_true_eq, decide_eq_false_iff_not, Bool.not_eq_true', Bool.not_eq_false', pz_0, Bool.not_eq_false, Bool.not_eq_true] at h19
        refine mj_b_rload_n (hE := fe_105_22) (hv := rfl) (k := ?_)
        refine mj_b_iload (hE := fe_105_23) (hv := rfl) (k := ?_)
        refine mj_b_iload_n (hE := fe_105_25) (hv := rfl) (k := ?_)
        refine mj_b_callR (hE := fe_105_26) (hi := in_99) (h1 := g99 _ hm0 (by omega) hw1) (hc := mj_cok_v rfl rfl (by assumption)) (ha := rfl) (hr := rfl) ?_
        refine mj_b_if1 (hE := fe_105_29) (kt := fun h29 => ?_) (kf := fun h29 => ?_)
        · simp only [mj_cnd, decide_eq_true_eq, decide_eq_false_iff_not, Bool.not_eq_true', Bool.not_eq_false', pz_0, Bool.not_eq_false, Bool.not_eq_true] at h29
          refine mj_b_iconst (hE := fe_105_36) (k := ?_)
          exact (h37 false _).mono (fun s hs => by rw [hs]; simp [pa_any, h19, h29])
        · simp only [mj_cnd, decide_eq_true_eq, decide_eq_false_iff_not, Bool.not_eq_true', Bool.not_eq_false', pz_0, Bool.not_eq_false, Bool.not_eq_true] at h29
          refine mj_b_iconst (hE := fe_105_32) (k := ?_)
          refine mj_b_goto (hE := fe_105_33) (k := ?_)
          exact (h37 true _).mono (fun s hs => by rw [hs]; simp [pa_any, h19, h29])
def mm_bar (I : Nat → Nat → Int32) (wh : Nat → Bool) (nl ns : Nat) (p : Int32) : Bool := pa_any (mm_cov I wh p) 0 nl && !(pa_any (mm_csb I wh ns p) 0 nl)
/-- LockedTreeModel.barred -/
theorem g105 (p : Int32) (hm : mm_ok R) (hk : mm_lk nl ns wh I) :
    mj_G pj_P 105 [.ref 87, .int p] (mz_SH L, I, R) (fun r => r = (some (.int (pz (mm_bar I wh nl ns p))), (mz_SH L, I, R))) := by
  refine mj_enter in_105 (L := [.ref 87, .int p, .retAddr 0, .retAddr 0, .retAddr 0]) rfl ?_
  refine mj_b_iconst (hE := fe_105_0) (k := ?_)
  refine mj_b_istore_n (hE := fe_105_1) (hx := Nat.le_of_ble_eq_true rfl) (k := ?_)
  refine mj_b_iconst (hE := fe_105_2) (k := ?_)
  refine mj_b_istore_n (hE := fe_105_3) (hx := Nat.le_of_ble_eq_true rfl) (k := ?_)
  refine mj_b_iconst (hE := fe_105_4) (k := ?_)
  refine mj_b_istore (hE := fe_105_5) (hx := Nat.le_of_ble_eq_true rfl) (k := ?_)
  exact (l105 hm hk nl 0 false false (by omega)).mono (fun s hs => by rw [hs]; simp [mm_bar])
def mm_cli (I : Nat → Nat → Int32) (wh : Nat → Bool) (nl ns : Nat) (p : Int32) : Bool := mm_bar I wh nl ns p || mm_bar I wh nl ns (p / 8)
/-- LockedTreeModel.clings -/
theorem g114 (p : Int32) (hm : mm_ok R) (hk : mm_lk nl ns wh I) :
    mj_G pj_P 114 [.ref 87, .int p] (mz_SH L, I, R) (fun r => r = (some (.int (pz (mm_cli I wh nl ns p))), (mz_SH L, I, R))) := by
  have h87 := sm_87 L
  refine mj_enter in_114 (L := [.ref 87, .int p]) rfl ?_
  refine mj_b_rload_n (hE := fe_114_0) (hv := rfl) (k := ?_)
  refine mj_b_iload_n (hE := fe_114_1) (hv := rfl) (k := ?_)
  refine mj_b_callR (hE := fe_114_2) (hi := in_105) (h1 := g105 _ hm hk) (hc := mj_cok_v rfl rfl (by assumption)) (ha := rfl) (hr := rfl) ?_
  refine mj_b_if1 (hE := fe_114_5) (kt := fun h5 => ?_) (kf := fun h5 => ?_)
  · simp only [mj_cnd, decide_eq_true_eq, decide_eq_false_iff_not, Bool.not_eq_true', Bool.not_eq_false', pz_0, Bool.not_eq_false, Bool.not_eq_true] at h5
    refine mj_b_iconst (hE := fe_114_19) (k := ?_)
    refine mj_b_goto (hE := fe_114_20) (k := ?_)
    exact mj_b_retZ (hE := fe_114_24) (hi := in_114) (by first | decide | exact pz_01 _) (by first | (simp [mm_cli, pz, h5]; done) | (simp_all [mm_cli, pz]; done) | rfl)
  · simp only [mj_cnd, decide_eq_true_eq, decide_eq_false_iff_not, Bool.not_eq_true', Bool.not_eq_false', pz_0, Bool.not_eq_false, Bool.not_eq_true] at h5
    refine mj_b_rload_n (hE := fe_114_8) (hv := rfl) (k := ?_)
    refine mj_b_iload_n (hE := fe_114_9) (hv := rfl) (k := ?_)
    refine mj_b_bipush (hE := fe_114_10) (k := ?_)
    refine mj_b_idiv (hE := fe_114_12) (hb := by decide) (k := ?_)
    refine mj_b_callR (hE := fe_114_13) (hi := in_105) (h1 := g105 _ hm hk) (hc := mj_cok_v rfl rfl (by assumption)) (ha := rfl) (hr := rfl) ?_
    refine mj_b_if1 (hE := fe_114_16) (kt := fun h16 => ?_) (kf := fun h16 => ?_)
    · simp only [mj_cnd, decide_eq_true_eq, decide_eq_false_iff_not, Bool.not_eq_true', Bool.not_eq_false', pz_0, Bool.not_eq_false, Bool.not_eq_true] at h16
      refine mj_b_iconst (hE := fe_114_23) (k := ?_)
      exact mj_b_retZ (hE := fe_114_24) (hi := in_114) (by first | decide | exact pz_01 _) (by first | (simp [mm_cli, pz, h5, h16]; done) | (simp_all [mm_cli, pz]; done) | rfl)
    · simp only [mj_cnd, decide_eq_true_eq, decide_eq_false_iff_not, Bool.not_eq_true', Bool.not_eq_false', pz_0, Bool.not_eq_false, Bool.not_eq_true] at h16
      refine mj_b_iconst (hE := fe_114_19) (k := ?_)
      refine mj_b_goto (hE := fe_114_20) (k := ?_)
      exact mj_b_retZ (hE := fe_114_24) (hi := in_114) (by first | decide | exact pz_01 _) (by first | (simp [mm_cli, pz, h5, h16]; done) | (simp_all [mm_cli, pz]; done) | rfl)
end MD
