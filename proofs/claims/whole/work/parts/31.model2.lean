/-! ===== the model: what is asked ===== -/
theorem mf_fnd_spec {I : Nat → Nat → Int32} {sd : Nat} {p : Int32} {j : Nat} : ∀ (k i : Nat) (acc : Option Nat), mf_fnd I sd p i k acc = some j → acc = some j ∨ (i ≤ j ∧ j < i + k ∧ I 88 (sd + j) = p) := by
  intro k
  induction k with
  | zero => intro i acc h; exact Or.inl h
  | succ k ih =>
    intro i acc h
    simp only [mf_fnd] at h
    rcases ih _ _ h with h1 | ⟨h1, h2, h3⟩
    · split at h1
      · rename_i hp
        cases h1
        exact Or.inr ⟨Nat.le_refl _, by omega, hp⟩
      · exact Or.inl h1
    · exact Or.inr ⟨by omega, by omega, h3⟩
theorem mf_fnd_lt {I : Nat → Nat → Int32} {sd : Nat} {p : Int32} {j n : Nat} (h : mf_fnd I sd p 0 n none = some j) : j < n ∧ I 88 (sd + j) = p := by
  rcases mf_fnd_spec _ _ _ h with h1 | ⟨h1, h2, h3⟩
  · cases h1
  · exact ⟨by omega, h3⟩
def mm_fld (I : Nat → Nat → Int32) (a n : Nat) (p : Int32) : Int32 := match mf_fnd I 0 p 0 n none with
  | some i => I a i
  | none => -1
section MQ
variable {L n sd nl ns : Nat} {I : Nat → Nat → Int32} {R : Nat → Nat → Option Nat} {wh lo fo : Nat → Bool}
/-- LockedTreeModel.body -/
theorem g131 (p : Int32) (hm : mm_ok R) (hn : I 98 0 = nI n) (hn13 : n ≤ 13) :
    mj_G pj_P 131 [.ref 87, .int p] (mz_SH L, I, R) (fun r => r = (some (.int (mm_fld I 90 n p)), (mz_SH L, I, R))) := by
  have hm0 := hm
  obtain ⟨q0, q1, q2, q3, q4, q5, q6, q7, q8, q9, q10, q11, q16, q21⟩ := hm
  have h87 := sm_87 L
  have hF := sm_90 L
  refine mj_enter in_131 (L := [.ref 87, .int p, .retAddr 0]) rfl ?_
  refine mj_b_rload_n (hE := fe_131_0) (hv := rfl) (k := ?_)
  refine mj_b_iload_n (hE := fe_131_1) (hv := rfl) (k := ?_)
  refine mj_b_iconst (hE := fe_131_2) (k := ?_)
  refine mj_b_callR (hE := fe_131_3) (hi := in_101) (h1 := g101 (sd := 0) p hm0 (Or.inl rfl) hn hn13) (hc := mj_cok_v rfl rfl h87) (ha := rfl) (hr := rfl) ?_
  cases ho : mf_fnd I 0 p 0 n none with
  | none =>
    refine mj_b_istore_n (hE := fe_131_6) (hx := Nat.le_of_ble_eq_true rfl) (k := ?_)
    refine mj_b_iload_n (hE := fe_131_7) (hv := rfl) (k := ?_)
    refine mj_b_if1 (hE := fe_131_8) (kt := fun h => ?_) (kf := fun h => ?_)
    · exact absurd h (by decide)
    · refine mj_b_iconst (hE := fe_131_11) (k := ?_)
      refine mj_b_goto (hE := fe_131_12) (k := ?_)
      exact mj_b_retI (hE := fe_131_21) (hi := in_131) (by simp [mm_fld, ho])
  | some i =>
    have hlt := mf_fnd_lt ho
    refine mj_b_istore_n (hE := fe_131_6) (hx := Nat.le_of_ble_eq_true rfl) (k := ?_)
    refine mj_b_iload_n (hE := fe_131_7) (hv := rfl) (k := ?_)
    refine mj_b_if1 (hE := fe_131_8) (kt := fun h => ?_) (kf := fun h => ?_)
    · refine mj_b_rload_n (hE := fe_131_15) (hv := rfl) (k := ?_)
      refine mj_b_getQ (hE := fe_131_16) (hM := by assumption) (hv := by assumption) (k := ?_)
      refine mj_b_iload_n (hE := fe_131_19) (hv := rfl) (k := ?_)
      refine mj_b_ialdN (hE := fe_131_20) (hM := hF) (ht := Or.inr rfl) (hj := show nI (0 + i) = nI i by rw [Nat.zero_add]) (hc := by omega) (hn := by decide) (hv := rfl) (k := ?_)
      exact mj_b_retI (hE := fe_131_21) (hi := in_131) (by simp [mm_fld, ho])
    · exact absurd (nI_pos' (n := 0 + i) (by omega)) (of_decide_eq_false h)
/-- LockedTreeModel.stamp -/
theorem g132 (p : Int32) (hm : mm_ok R) (hn : I 98 0 = nI n) (hn13 : n ≤ 13) :
    mj_G pj_P 132 [.ref 87, .int p] (mz_SH L, I, R) (fun r => r = (some (.int (mm_fld I 91 n p)), (mz_SH L, I, R))) := by
  have hm0 := hm
  obtain ⟨q0, q1, q2, q3, q4, q5, q6, q7, q8, q9, q10, q11, q16, q21⟩ := hm
  have h87 := sm_87 L
  have hF := sm_91 L
  refine mj_enter in_132 (L := [.ref 87, .int p, .retAddr 0]) rfl ?_
  refine mj_b_rload_n (hE := fe_132_0) (hv := rfl) (k := ?_)
  refine mj_b_iload_n (hE := fe_132_1) (hv := rfl) (k := ?_)
  refine mj_b_iconst (hE := fe_132_2) (k := ?_)
  refine mj_b_callR (hE := fe_132_3) (hi := in_101) (h1 := g101 (sd := 0) p hm0 (Or.inl rfl) hn hn13) (hc := mj_cok_v rfl rfl h87) (ha := rfl) (hr := rfl) ?_
  cases ho : mf_fnd I 0 p 0 n none with
  | none =>
    refine mj_b_istore_n (hE := fe_132_6) (hx := Nat.le_of_ble_eq_true rfl) (k := ?_)
    refine mj_b_iload_n (hE := fe_132_7) (hv := rfl) (k := ?_)
    refine mj_b_if1 (hE := fe_132_8) (kt := fun h => ?_) (kf := fun h => ?_)
    · exact absurd h (by decide)
    · refine mj_b_iconst (hE := fe_132_11) (k := ?_)
      refine mj_b_goto (hE := fe_132_12) (k := ?_)
      exact mj_b_retI (hE := fe_132_21) (hi := in_132) (by simp [mm_fld, ho])
  | some i =>
    have hlt := mf_fnd_lt ho
    refine mj_b_istore_n (hE := fe_132_6) (hx := Nat.le_of_ble_eq_true rfl) (k := ?_)
    refine mj_b_iload_n (hE := fe_132_7) (hv := rfl) (k := ?_)
    refine mj_b_if1 (hE := fe_132_8) (kt := fun h => ?_) (kf := fun h => ?_)
    · refine mj_b_rload_n (hE := fe_132_15) (hv := rfl) (k := ?_)
      refine mj_b_getQ (hE := fe_132_16) (hM := by assumption) (hv := by assumption) (k := ?_)
      refine mj_b_iload_n (hE := fe_132_19) (hv := rfl) (k := ?_)
      refine mj_b_ialdN (hE := fe_132_20) (hM := hF) (ht := Or.inr rfl) (hj := show nI (0 + i) = nI i by rw [Nat.zero_add]) (hc := by omega) (hn := by decide) (hv := rfl) (k := ?_)
      exact mj_b_retI (hE := fe_132_21) (hi := in_132) (by simp [mm_fld, ho])
    · exact absurd (nI_pos' (n := 0 + i) (by omega)) (of_decide_eq_false h)
def mm_fol (I : Nat → Nat → Int32) (fo : Nat → Bool) (n : Nat) (p : Int32) : Bool := match mf_fnd I 0 p 0 n none with
  | some i => fo i
  | none => false
/-- LockedTreeModel.isFolder -/
theorem g104 (p : Int32) (hm : mm_ok R) (hn : I 98 0 = nI n) (hn13 : n ≤ 13) (hfo : ∀ i, i < n → I 89 i = pz (fo i)) :
    mj_G pj_P 104 [.ref 87, .int p] (mz_SH L, I, R) (fun r => r = (some (.int (pz (mm_fol I fo n p))), (mz_SH L, I, R))) := by
  have hm0 := hm
  obtain ⟨q0, q1, q2, q3, q4, q5, q6, q7, q8, q9, q10, q11, q16, q21⟩ := hm
  have h87 := sm_87 L
  have h89 := sm_89 L
  refine mj_enter in_104 (L := [.ref 87, .int p, .retAddr 0]) rfl ?_
  refine mj_b_rload_n (hE := fe_104_0) (hv := rfl) (k := ?_)
  refine mj_b_iload_n (hE := fe_104_1) (hv := rfl) (k := ?_)
  refine mj_b_iconst (hE := fe_104_2) (k := ?_)
  refine mj_b_callR (hE := fe_104_3) (hi := in_101) (h1 := g101 (sd := 0) p hm0 (Or.inl rfl) hn hn13) (hc := mj_cok_v rfl rfl h87) (ha := rfl) (hr := rfl) ?_
  cases ho : mf_fnd I 0 p 0 n none with
  | none =>
    refine mj_b_istore_n (hE := fe_104_6) (hx := Nat.le_of_ble_eq_true rfl) (k := ?_)
    refine mj_b_iload_n (hE := fe_104_7) (hv := rfl) (k := ?_)
    refine mj_b_if1 (hE := fe_104_8) (kt := fun h => ?_) (kf := fun h => ?_)
    · refine mj_b_iconst (hE := fe_104_24) (k := ?_)
      exact mj_b_retZ (hE := fe_104_25) (hi := in_104) (Or.inl rfl) (by simp [mm_fol, ho, pz])
    · exact absurd h (by decide)
  | some i =>
    have hlt := mf_fnd_lt ho
    have hf := hfo i (by omega)
    refine mj_b_istore_n (hE := fe_104_6) (hx := Nat.le_of_ble_eq_true rfl) (k := ?_)
    refine mj_b_iload_n (hE := fe_104_7) (hv := rfl) (k := ?_)
    refine mj_b_if1 (hE := fe_104_8) (kt := fun h => ?_) (kf := fun h => ?_)
    · exact absurd (of_decide_eq_true h) (nI_pos (n := 0 + i) (by omega))
    · refine mj_b_rload_n (hE := fe_104_11) (hv := rfl) (k := ?_)
      refine mj_b_getQ (hE := fe_104_12) (hM := by assumption) (hv := by assumption) (k := ?_)
      refine mj_b_iload_n (hE := fe_104_15) (hv := rfl) (k := ?_)
      refine mj_b_baldN (hE := fe_104_16) (hM := h89) (hj := show nI (0 + i) = nI i by rw [Nat.zero_add]) (hc := by omega) (hn := by decide) (hv := hf) (k := ?_)
      refine mj_b_if1 (hE := fe_104_17) (kt := fun h17 => ?_) (kf := fun h17 => ?_)
      · simp only [mj_cnd, decide_eq_true_eq, decide_eq_false_iff_not, Bool.not_eq_true', Bool.not_eq_false', pz_0, Bool.not_eq_false, Bool.not_eq_true] at h17
        refine mj_b_iconst (hE := fe_104_24) (k := ?_)
        exact mj_b_retZ (hE := fe_104_25) (hi := in_104) (by first | decide | exact pz_01 _) (by first | (simp [mm_fol, ho, pz, h17]; done) | (simp_all [mm_fol, ho, pz]; done) | rfl)
      · simp only [mj_cnd, decide_eq_true_eq, decide_eq_false_iff_not, Bool.not_eq_true', Bool.not_eq_false', pz_0, Bool.not_eq_false, Bool.not_eq_true] at h17
        refine mj_b_iconst (hE := fe_104_20) (k := ?_)
        refine mj_b_goto (hE := fe_104_21) (k := ?_)
        exact mj_b_retZ (hE := fe_104_25) (hi := in_104) (by first | decide | exact pz_01 _) (by first | (simp [mm_fol, ho, pz, h17]; done) | (simp_all [mm_fol, ho, pz]; done) | rfl)
def mm_has (I : Nat → Nat → Int32) (n : Nat) (p : Int32) : Bool := (mf_fnd I 0 p 0 n none).isSome
/-- LockedTreeModel.kind -/
theorem g130 (p : Int32) (hm : mm_ok R) (hn : I 98 0 = nI n) (hn13 : n ≤ 13) (hfo : ∀ i, i < n → I 89 i = pz (fo i)) :
    mj_G pj_P 130 [.ref 87, .int p] (mz_SH L, I, R) (fun r => r = (some (.int (if mm_fol I fo n p = true then 2 else if mm_has I n p = true then 1 else 0)), (mz_SH L, I, R))) := by
  have h87 := sm_87 L
  refine mj_enter in_130 (L := [.ref 87, .int p]) rfl ?_
  refine mj_b_rload_n (hE := fe_130_0) (hv := rfl) (k := ?_)
  refine mj_b_iload_n (hE := fe_130_1) (hv := rfl) (k := ?_)
  refine mj_b_callR (hE := fe_130_2) (hi := in_104) (h1 := g104 p hm hn hn13 hfo) (hc := mj_cok_v rfl rfl h87) (ha := rfl) (hr := rfl) ?_
  refine mj_b_if1 (hE := fe_130_5) (kt := fun g => ?_) (kf := fun g => ?_)
  · simp only [mj_cnd, decide_eq_true_eq, pz_0] at g
    refine mj_b_rload_n (hE := fe_130_12) (hv := rfl) (k := ?_)
    refine mj_b_iload_n (hE := fe_130_13) (hv := rfl) (k := ?_)
    refine mj_b_iconst (hE := fe_130_14) (k := ?_)
    refine mj_b_callR (hE := fe_130_15) (hi := in_101) (h1 := g101 (sd := 0) p hm (Or.inl rfl) hn hn13) (hc := mj_cok_v rfl rfl h87) (ha := rfl) (hr := rfl) ?_
    cases ho : mf_fnd I 0 p 0 n none with
    | none =>
      refine mj_b_if1 (hE := fe_130_18) (kt := fun h => ?_) (kf := fun h => ?_)
      · refine mj_b_iconst (hE := fe_130_25) (k := ?_)
        exact mj_b_retI (hE := fe_130_26) (hi := in_130) (by simp [mm_has, ho, g])
      · exact absurd h (by decide)
    | some i =>
      have hlt := mf_fnd_lt ho
      refine mj_b_if1 (hE := fe_130_18) (kt := fun h => ?_) (kf := fun h => ?_)
      · exact absurd (of_decide_eq_true h) (nI_pos (n := 0 + i) (by omega))
      · refine mj_b_iconst (hE := fe_130_21) (k := ?_)
        refine mj_b_goto (hE := fe_130_22) (k := ?_)
        exact mj_b_retI (hE := fe_130_26) (hi := in_130) (by simp [mm_has, ho, g])
  · simp only [mj_cnd, decide_eq_false_iff_not, pz_0, Bool.not_eq_false] at g
    refine mj_b_iconst (hE := fe_130_8) (k := ?_)
    refine mj_b_goto (hE := fe_130_9) (k := ?_)
    exact mj_b_retI (hE := fe_130_26) (hi := in_130) (by simp [g])
/-- LockedTreeModel.writes -/
theorem g137 : mj_G pj_P 137 [.ref 87] (mz_SH L, I, R) (fun r => r = (some (.int (I 87 20)), (mz_SH L, I, R))) := by
  have h87 := sm_87 L
  refine mj_enter in_137 (L := [.ref 87]) rfl ?_
  refine mj_b_rload_n (hE := fe_137_0) (hv := rfl) (k := ?_)
  refine mj_b_getV (hE := fe_137_1) (hM := h87) (hv := rfl) (k := ?_)
  exact mj_b_retI (hE := fe_137_4) (hi := in_137) rfl
def mm_fal (n : Int32) : Bool := !decide (n < -1) && decide (n ≤ 100)
/-- LockedTreeModel.fail -/
theorem g90 (k : Int32) : mj_G pj_P 90 [.ref 87, .int k] (mz_SH L, I, R) (fun r => r = (some (.int (pz (mm_fal k))), (mz_SH L, if mm_fal k = true then mj_u I 87 18 k else I, R))) := by
  have h87 := sm_87 L
  refine mj_enter in_90 (L := [.ref 87, .int k]) rfl ?_
  refine mj_b_iload_n (hE := fe_90_0) (hv := rfl) (k := ?_)
  refine mj_b_iconst (hE := fe_90_1) (k := ?_)
  refine mj_b_if2 (hE := fe_90_2) (kt := fun h2 => ?_) (kf := fun h2 => ?_)
  · simp only [mj_cnd, decide_eq_true_eq, decide_eq_false_iff_not, Bool.not_eq_true', Bool.not_eq_false', pz_0, Bool.not_eq_false, Bool.not_eq_true] at h2
    refine mj_b_iconst (hE := fe_90_11) (k := ?_)
    exact mj_b_retZ (hE := fe_90_12) (hi := in_90) (by first | decide | exact pz_01 _) (by first | (simp [mm_fal, pz, h2]; done) | (simp_all [mm_fal, pz]; done) | rfl)
  · simp only [mj_cnd, decide_eq_true_eq, decide_eq_false_iff_not, Bool.not_eq_true', Bool.not_eq_false', pz_0, Bool.not_eq_false, Bool.not_eq_true] at h2
    refine mj_b_iload_n (hE := fe_90_5) (hv := rfl) (k := ?_)
    refine mj_b_bipush (hE := fe_90_6) (k := ?_)
    refine mj_b_if2 (hE := fe_90_8) (kt := fun h8 => ?_) (kf := fun h8 => ?_)
    · simp only [mj_cnd, decide_eq_true_eq, decide_eq_false_iff_not, Bool.not_eq_true', Bool.not_eq_false', pz_0, Bool.not_eq_false, Bool.not_eq_true] at h8
      refine mj_b_rload_n (hE := fe_90_13) (hv := rfl) (k := ?_)
      refine mj_b_iload_n (hE := fe_90_14) (hv := rfl) (k := ?_)
      refine mj_b_putI (hE := fe_90_15) (hw := Or.inl rfl) (hM := by assumption) (k := ?_)
      refine mj_b_iconst (hE := fe_90_18) (k := ?_)
      exact mj_b_retZ (hE := fe_90_19) (hi := in_90) (by first | decide | exact pz_01 _) (by first | (simp [mm_fal, pz, h2, h8]; done) | (simp_all [mm_fal, pz]; done) | rfl)
    · simp only [mj_cnd, decide_eq_true_eq, decide_eq_false_iff_not, Bool.not_eq_true', Bool.not_eq_false', pz_0, Bool.not_eq_false, Bool.not_eq_true] at h8
      refine mj_b_iconst (hE := fe_90_11) (k := ?_)
      exact mj_b_retZ (hE := fe_90_12) (hi := in_90) (by first | decide | exact pz_01 _) (by first | (simp [mm_fal, pz, h2, h8]; done) | (simp_all [mm_fal, pz]; done) | rfl)
def mm_mul (I : Nat → Nat → Int32) (ms : Nat) (k : Int32) : Int32 := if k = -1 then nI ms else if k < 0 ∨ nI ms ≤ k then -1 else I 101 k.toNatClampNeg
/-- LockedTreeModel.multi -/
theorem g136 {ms : Nat} (k : Int32) (hm : mm_ok R) (hs : I 87 22 = nI ms) (hs16 : ms ≤ 16) :
    mj_G pj_P 136 [.ref 87, .int k] (mz_SH L, I, R) (fun r => r = (some (.int (mm_mul I ms k)), (mz_SH L, I, R))) := by
  obtain ⟨q0, q1, q2, q3, q4, q5, q6, q7, q8, q9, q10, q11, q16, q21⟩ := hm
  have h87 := sm_87 L
  have h101 := sm_101 L
  have m24 : ¬ k < 0 → ¬ nI ms ≤ k → ¬ k = -1 → mj_T pj_P 136 24 [.ref 87, .int k] [] (mz_SH L, I, R) (fun r => r = (some (.int (mm_mul I ms k)), (mz_SH L, I, R))) := by
    intro a1 a2 a3
    have hk := i32_nI a1
    have hlt : k.toInt.toNat < 16 := by
      rw [Int32.le_iff_toInt_le, nI_toInt (by omega)] at a2
      rw [Int32.lt_iff_toInt_lt, Int32.toInt_zero] at a1
      omega
    have hix : mj_ix k 16 = true := by rw [hk]; exact mj_ix_nI hlt (by decide)
    refine mj_b_rload_n (hE := fe_136_24) (hv := rfl) (k := ?_)
    refine mj_b_getQ (hE := fe_136_25) (hM := by assumption) (hv := by assumption) (k := ?_)
    refine mj_b_iload_n (hE := fe_136_28) (hv := rfl) (k := ?_)
    refine mj_b_iald (hE := fe_136_29) (hM := h101) (ht := Or.inr rfl) (hi := hix) (k := ?_)
    refine mj_b_goto (hE := fe_136_30) (k := ?_)
    exact mj_b_retI (hE := fe_136_34) (hi := in_136) (by simp [mm_mul, a1, a2, a3])
  refine mj_enter in_136 (L := [.ref 87, .int k]) rfl ?_
  refine mj_b_iload_n (hE := fe_136_0) (hv := rfl) (k := ?_)
  refine mj_b_iconst (hE := fe_136_1) (k := ?_)
  refine mj_b_if2 (hE := fe_136_2) (kt := fun h2 => ?_) (kf := fun h2 => ?_)
  · simp only [mj_cnd, decide_eq_true_eq, decide_eq_false_iff_not, Bool.not_eq_true', Bool.not_eq_false', pz_0, Bool.not_eq_false, Bool.not_eq_true] at h2
    refine mj_b_iload_n (hE := fe_136_12) (hv := rfl) (k := ?_)
    refine mj_b_if1 (hE := fe_136_13) (kt := fun h13 => ?_) (kf := fun h13 => ?_)
    · simp only [mj_cnd, decide_eq_true_eq, decide_eq_false_iff_not, Bool.not_eq_true', Bool.not_eq_false', pz_0, Bool.not_eq_false, Bool.not_eq_true] at h13
      refine mj_b_iconst (hE := fe_136_33) (k := ?_)
      exact mj_b_retI (hE := fe_136_34) (hi := in_136) (by first | (simp [mm_mul, pz, h2, h13]; done) | (simp_all [mm_mul, pz]; done) | rfl)
    · simp only [mj_cnd, decide_eq_true_eq, decide_eq_false_iff_not, Bool.not_eq_true', Bool.not_eq_false', pz_0, Bool.not_eq_false, Bool.not_eq_true] at h13
      refine mj_b_iload_n (hE := fe_136_16) (hv := rfl) (k := ?_)
      refine mj_b_rload_n (hE := fe_136_17) (hv := rfl) (k := ?_)
      refine mj_b_getV (hE := fe_136_18) (hM := by assumption) (hv := by assumption) (k := ?_)
      refine mj_b_if2 (hE := fe_136_21) (kt := fun h21 => ?_) (kf := fun h21 => ?_)
      · simp only [mj_cnd, decide_eq_true_eq, decide_eq_false_iff_not, Bool.not_eq_true', Bool.not_eq_false', pz_0, Bool.not_eq_false, Bool.not_eq_true] at h21
        refine mj_b_iconst (hE := fe_136_33) (k := ?_)
        exact mj_b_retI (hE := fe_136_34) (hi := in_136) (by first | (simp [mm_mul, pz, h2, h13, h21]; done) | (simp_all [mm_mul, pz]; done) | rfl)
      · simp only [mj_cnd, decide_eq_true_eq, decide_eq_false_iff_not, Bool.not_eq_true', Bool.not_eq_false', pz_0, Bool.not_eq_false, Bool.not_eq_true] at h21
        exact m24 h13 h21 h2
  · simp only [mj_cnd, decide_eq_true_eq, decide_eq_false_iff_not, Bool.not_eq_true', Bool.not_eq_false', pz_0, Bool.not_eq_false, Bool.not_eq_true] at h2
    refine mj_b_rload_n (hE := fe_136_5) (hv := rfl) (k := ?_)
    refine mj_b_getV (hE := fe_136_6) (hM := by assumption) (hv := by assumption) (k := ?_)
    refine mj_b_goto (hE := fe_136_9) (k := ?_)
    exact mj_b_retI (hE := fe_136_34) (hi := in_136) (by first | (simp [mm_mul, pz, h2]; done) | (simp_all [mm_mul, pz]; done) | rfl)
end MQ
