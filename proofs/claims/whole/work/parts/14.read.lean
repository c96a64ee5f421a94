/-! ===== the class's questions: header, locks ===== -/
theorem sh_1 (L : Nat) : (mz_SH L)[1]? = some (0, 7) := rfl
theorem sh_72 (L : Nat) : (mz_SH L)[72]? = some (4, 8) := sh_at (by decide +kernel)
theorem sh_73 (L : Nat) : (mz_SH L)[73]? = some (133, 12) := sh_at (by decide +kernel)
theorem sh_86 (L : Nat) : (mz_SH L)[86]? = some (65, 12) := sh_at (by decide +kernel)
theorem sh_ofc : ∀ i, i < 12 → mz_tail[73 + i]? = some (5, 5) := by decide +kernel
theorem sh_C (L : Nat) {i : Nat} (hi : i < 12) : (mz_SH L)[74 + i]? = some (5, 5) := by
  have := sh_at (L := L) (sh_ofc i hi)
  rwa [show 73 + i + 1 = 74 + i by omega] at this
/-- some i from i on, k of them, with f -/
def pa_any (f : Nat → Bool) : Nat → Nat → Bool
  | _, 0 => false
  | i, k + 1 => f i || pa_any f (i + 1) k
/-- the first i from i on, k of them, with f -/
def pa_find (f : Nat → Bool) : Nat → Nat → Option Nat
  | _, 0 => none
  | i, k + 1 => if f i = true then some i else pa_find f (i + 1) k
theorem pa_find_lt {f : Nat → Bool} {j : Nat} : ∀ (k i : Nat), pa_find f i k = some j → i ≤ j ∧ j < i + k ∧ f j = true := by
  intro k
  induction k with
  | zero => intro i h; simp [pa_find] at h
  | succ k ih =>
    intro i h
    simp only [pa_find] at h
    split at h
    · rename_i h1
      cases h
      exact ⟨Nat.le_refl _, by omega, h1⟩
    · obtain ⟨a1, a2, a3⟩ := ih (i + 1) h
      exact ⟨by omega, by omega, a3⟩
theorem pa_find_any {f : Nat → Bool} : ∀ (k i : Nat), (pa_find f i k).isSome = pa_any f i k := by
  intro k
  induction k with
  | zero => intro i; rfl
  | succ k ih =>
    intro i
    simp only [pa_find, pa_any]
    cases h : f i <;> simp [ih]
def ch_wf (I : Nat → Nat → Int32) : Bool := decide (I 72 4 = 0) || decide (I 72 4 = 7)
/-- Header.isWellFormed -/
theorem g20 {L : Nat} {I : Nat → Nat → Int32} {R : Nat → Nat → Option Nat} : mj_G pj_P 20 [.ref 72] (mz_SH L, I, R) (fun r => r = (some (.int (pz (ch_wf I))), (mz_SH L, I, R))) := by
  have hH := sh_72 L
  refine mj_enter in_20 (L := [.ref 72]) rfl ?_
  refine mj_b_rload_n (hE := fe_20_0) (hv := rfl) (k := ?_)
  refine mj_b_getV (hE := fe_20_1) (hM := hH) (hv := rfl) (k := ?_)
  refine mj_b_if1 (hE := fe_20_4) (kt := fun h4 => ?_) (kf := fun h4 => ?_)
  · simp only [mj_cnd, decide_eq_true_eq, decide_eq_false_iff_not, Bool.not_eq_true', Bool.not_eq_false', pz_0, Bool.not_eq_false, Bool.not_eq_true] at h4
    refine mj_b_iconst (hE := fe_20_16) (k := ?_)
    refine mj_b_goto (hE := fe_20_17) (k := ?_)
    exact mj_b_retZ (hE := fe_20_21) (hi := in_20) (by first | decide | exact pz_01 _) (by first | (simp [ch_wf, pz, h4]; done) | (simp_all [ch_wf, pz]; done) | rfl)
  · simp only [mj_cnd, decide_eq_true_eq, decide_eq_false_iff_not, Bool.not_eq_true', Bool.not_eq_false', pz_0, Bool.not_eq_false, Bool.not_eq_true] at h4
    refine mj_b_rload_n (hE := fe_20_7) (hv := rfl) (k := ?_)
    refine mj_b_getV (hE := fe_20_8) (hM := hH) (hv := rfl) (k := ?_)
    refine mj_b_bipush (hE := fe_20_11) (k := ?_)
    refine mj_b_if2 (hE := fe_20_13) (kt := fun h13 => ?_) (kf := fun h13 => ?_)
    · simp only [mj_cnd, decide_eq_true_eq, decide_eq_false_iff_not, Bool.not_eq_true', Bool.not_eq_false', pz_0, Bool.not_eq_false, Bool.not_eq_true] at h13
      refine mj_b_iconst (hE := fe_20_20) (k := ?_)
      exact mj_b_retZ (hE := fe_20_21) (hi := in_20) (by first | decide | exact pz_01 _) (by first | (simp [ch_wf, pz, h4, h13]; done) | (simp_all [ch_wf, pz]; done) | rfl)
    · simp only [mj_cnd, decide_eq_true_eq, decide_eq_false_iff_not, Bool.not_eq_true', Bool.not_eq_false', pz_0, Bool.not_eq_false, Bool.not_eq_true] at h13
      refine mj_b_iconst (hE := fe_20_16) (k := ?_)
      refine mj_b_goto (hE := fe_20_17) (k := ?_)
      exact mj_b_retZ (hE := fe_20_21) (hi := in_20) (by first | decide | exact pz_01 _) (by first | (simp [ch_wf, pz, h4, h13]; done) | (simp_all [ch_wf, pz]; done) | rfl)
/-- the references of the header -/
def ch_ok (R : Nat → Nat → Option Nat) : Prop := R 72 0 = some 73 ∧ ∀ i, i < 12 → R 73 i = some (74 + i)
/-- the conditions' answers to: about a lock, and of this number -/
def ch_is (I : Nat → Nat → Int32) (al : Nat → Bool) (t : Int32) (i : Nat) : Bool := al i && decide (I (74 + i) 4 = t)
set_option maxHeartbeats 1000000 in
theorem l35 {L n : Nat} {I : Nat → Nat → Int32} {R : Nat → Nat → Option Nat} {al : Nat → Bool} {t : Int32} (hok : ch_ok R) (hn : I 72 1 = nI n) (hn12 : n ≤ 12) (hal : ∀ i, i < n → I (74 + i) 2 = pz (al i)) :
    ∀ (k i : Nat), i + k = n → mj_T pj_P 35 2 [.ref 72, .int t, .int (nI i)] [] (mz_SH L, I, R) (fun r => r = (some (.int (pz (pa_any (ch_is I al t) i k))), (mz_SH L, I, R))) := by
  intro k
  have hS := sh_72 L
  have hA := sh_73 L
  have hR := hok.1
  induction k with
  | zero =>
    intro i hi
    have hin : i = n := by omega
    subst hin
    refine mj_b_iload_n (hE := fe_35_2) (hv := rfl) (k := ?_)
    refine mj_b_rload_n (hE := fe_35_3) (hv := rfl) (k := ?_)
    refine mj_b_getV (hE := fe_35_4) (hM := by assumption) (hv := by assumption) (k := ?_)
    refine mj_b_if2 (hE := fe_35_7) (kt := fun h => ?_) (kf := fun h => ?_)
    · refine mj_b_iconst (hE := fe_35_43) (k := ?_)
      exact mj_b_retZ (hE := fe_35_44) (hi := in_35) (Or.inl rfl) rfl
    · simp [mj_cnd] at h
  | succ k ih =>
    intro i hi
    have hi12 : i < 12 := by omega
    have hr1 := hok.2 i hi12
    have hC := sh_C L hi12
    have hal1 := hal i (by omega)
    refine mj_b_iload_n (hE := fe_35_2) (hv := rfl) (k := ?_)
    refine mj_b_rload_n (hE := fe_35_3) (hv := rfl) (k := ?_)
    refine mj_b_getV (hE := fe_35_4) (hM := by assumption) (hv := by assumption) (k := ?_)
    refine mj_b_if2 (hE := fe_35_7) (kt := fun h => ?_) (kf := fun h => ?_)
    · simp only [mj_cnd, decide_eq_true_eq] at h
      exact absurd h (nI_ge (by omega) (by omega))
    · have hnx : ∀ Q, mj_T pj_P 35 2 [.ref 72, .int t, .int (nI (i + 1))] [] (mz_SH L, I, R) Q → mj_T pj_P 35 37 [.ref 72, .int t, .int (nI i)] [] (mz_SH L, I, R) Q := by
        intro Q hQ
        refine mj_b_iinc (hE := fe_35_37) (hv := rfl) (k := ?_)
        refine mj_b_goto (hE := fe_35_40) (k := ?_)
        exact (show mj_T pj_P 35 2 [.ref 72, .int t, .int (nI i + 1)] [] (mz_SH L, I, R) Q from (nI_succ i) ▸ hQ)
      refine mj_b_rload_n (hE := fe_35_10) (hv := rfl) (k := ?_)
      refine mj_b_getQ (hE := fe_35_11) (hM := by assumption) (hv := by assumption) (k := ?_)
      refine mj_b_iload_n (hE := fe_35_14) (hv := rfl) (k := ?_)
      refine mj_b_aaldQ (hE := fe_35_15) (hM := by assumption) (ht := by decide) (hj := rfl) (hc := by omega) (hn := by decide) (hv := by assumption) (k := ?_)
      refine mj_b_getV (hE := fe_35_16) (hM := by assumption) (hv := by assumption) (k := ?_)
      refine mj_b_if1 (hE := fe_35_19) (kt := fun g => ?_) (kf := fun g => ?_)
      · simp only [mj_cnd, decide_eq_true_eq, pz_0] at g
        exact hnx _ ((ih (i + 1) (by omega)).mono (fun s hs => by rw [hs]; simp [pa_any, ch_is, g]))
      · simp only [mj_cnd, decide_eq_false_iff_not, pz_0, Bool.not_eq_false] at g
        refine mj_b_rload_n (hE := fe_35_22) (hv := rfl) (k := ?_)
        refine mj_b_getQ (hE := fe_35_23) (hM := by assumption) (hv := by assumption) (k := ?_)
        refine mj_b_iload_n (hE := fe_35_26) (hv := rfl) (k := ?_)
        refine mj_b_aaldQ (hE := fe_35_27) (hM := by assumption) (ht := by decide) (hj := rfl) (hc := by omega) (hn := by decide) (hv := by assumption) (k := ?_)
        refine mj_b_getV (hE := fe_35_28) (hM := by assumption) (hv := rfl) (k := ?_)
        refine mj_b_iload_n (hE := fe_35_31) (hv := rfl) (k := ?_)
        refine mj_b_if2 (hE := fe_35_32) (kt := fun j => ?_) (kf := fun j => ?_)
        · simp only [mj_cnd, Bool.not_eq_true', decide_eq_false_iff_not] at j
          exact hnx _ ((ih (i + 1) (by omega)).mono (fun s hs => by rw [hs]; simp [pa_any, ch_is, j]))
        · simp only [mj_cnd, Bool.not_eq_false', decide_eq_true_eq] at j
          refine mj_b_iconst (hE := fe_35_35) (k := ?_)
          exact mj_b_retZ (hE := fe_35_36) (hi := in_35) (Or.inr rfl) (by simp [pa_any, ch_is, g, j, pz])
/-- the header submits the token -/
def ch_sub (I : Nat → Nat → Int32) (al : Nat → Bool) (n : Nat) (t : Int32) : Bool := pa_any (ch_is I al t) 0 n
/-- Header.submits -/
theorem g35 {L n : Nat} {I : Nat → Nat → Int32} {R : Nat → Nat → Option Nat} {al : Nat → Bool} (t : Int32) (hok : ch_ok R) (hn : I 72 1 = nI n) (hn12 : n ≤ 12) (hal : ∀ i, i < n → I (74 + i) 2 = pz (al i)) :
    mj_G pj_P 35 [.ref 72, .int t] (mz_SH L, I, R) (fun r => r = (some (.int (pz (ch_sub I al n t))), (mz_SH L, I, R))) := by
  refine mj_enter in_35 (L := [.ref 72, .int t, .retAddr 0]) rfl ?_
  refine mj_b_iconst (hE := fe_35_0) (k := ?_)
  refine mj_b_istore_n (hE := fe_35_1) (hx := Nat.le_of_ble_eq_true rfl) (k := ?_)
  exact l35 hok hn hn12 hal n 0 (by omega)
