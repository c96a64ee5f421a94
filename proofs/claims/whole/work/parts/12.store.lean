/-! ===== the heap behind the constructors: which cell is what ===== -/
def mz_rows : List (Nat × Nat) := [(2, 5), (65, 3), (2, 5), (65, 3), (2, 5), (65, 3), (2, 5), (65, 3), (2, 5), (65, 3), (2, 5), (65, 3), (2, 5), (65, 3), (2, 5), (65, 3), (2, 5), (65, 3), (2, 5), (65, 3), (2, 5), (65, 3), (2, 5), (65, 3), (2, 5), (65, 3)]
def mz_store : List (Nat × Nat) := [(1, 7), (130, 13), (131, 6)] ++ mz_rows ++ [(3, 5), (3, 5), (3, 5), (3, 5), (3, 5), (3, 5)]
def mz_tail : List (Nat × Nat) := [(0, 7)] ++ mz_store ++ mz_store ++ [(4, 8), (133, 12), (5, 5), (5, 5), (5, 5), (5, 5), (5, 5), (5, 5), (5, 5), (5, 5), (5, 5), (5, 5), (5, 5), (5, 5), (65, 12)] ++ [(6, 23), (65, 40), (66, 40), (65, 40), (65, 40), (65, 120), (65, 20), (65, 20), (66, 20), (66, 20), (65, 20), (65, 10), (67, 24), (65, 12), (65, 16)]
/-- 0 the script; 1 LockedTree; 2, 37 the stores; 72 the header; 86 multiPaths; 87 the model; 88 .. its arrays -/
def mz_SH (L : Nat) : List (Nat × Nat) := (64, L) :: mz_tail
theorem sh_at {L k : Nat} {q : Nat × Nat} (h : mz_tail[k]? = some q) : (mz_SH L)[k + 1]? = some q := by
  unfold mz_SH
  rw [List.getElem?_cons_succ]
  exact h
theorem sh_ofs : ∀ b, b = 2 ∨ b = 37 → mz_tail[b - 1]? = some (1, 7) ∧ mz_tail[b]? = some (130, 13) ∧ mz_tail[b + 1]? = some (131, 6) ∧ (∀ i, i < 13 → mz_tail[b + 2 + 2 * i]? = some (2, 5) ∧ mz_tail[b + 3 + 2 * i]? = some (65, 3)) ∧ ∀ i, i < 6 → mz_tail[b + 28 + i]? = some (3, 5) := by
  rintro b (rfl | rfl) <;> decide +kernel
section SH
variable {L b : Nat} (hb : b = 2 ∨ b = 37)
theorem sh_S (L : Nat) {b : Nat} (hb : b = 2 ∨ b = 37) : (mz_SH L)[b]? = some (1, 7) := by
  have := sh_at (L := L) (sh_ofs b hb).1
  rwa [show b - 1 + 1 = b by omega] at this
theorem sh_A (L : Nat) {b : Nat} (hb : b = 2 ∨ b = 37) : (mz_SH L)[b + 1]? = some (130, 13) := sh_at (sh_ofs b hb).2.1
theorem sh_K (L : Nat) {b : Nat} (hb : b = 2 ∨ b = 37) : (mz_SH L)[b + 2]? = some (131, 6) := sh_at (sh_ofs b hb).2.2.1
theorem sh_R (L : Nat) {b : Nat} (hb : b = 2 ∨ b = 37) {i : Nat} (hi : i < 13) : (mz_SH L)[b + 3 + 2 * i]? = some (2, 5) := by
  have := sh_at (L := L) ((sh_ofs b hb).2.2.2.1 i hi).1
  rwa [show b + 2 + 2 * i + 1 = b + 3 + 2 * i by omega] at this
theorem sh_P (L : Nat) {b : Nat} (hb : b = 2 ∨ b = 37) {i : Nat} (hi : i < 13) : (mz_SH L)[b + 4 + 2 * i]? = some (65, 3) := by
  have := sh_at (L := L) ((sh_ofs b hb).2.2.2.1 i hi).2
  rwa [show b + 3 + 2 * i + 1 = b + 4 + 2 * i by omega] at this
theorem sh_L (L : Nat) {b : Nat} (hb : b = 2 ∨ b = 37) {i : Nat} (hi : i < 6) : (mz_SH L)[b + 29 + i]? = some (3, 5) := by
  have := sh_at (L := L) ((sh_ofs b hb).2.2.2.2 i hi)
  rwa [show b + 28 + i + 1 = b + 29 + i by omega] at this
end SH
/-- the references of the store at b: its rows stand in the order pi -/
def cs_ok (b : Nat) (pi : Nat → Nat) (R : Nat → Nat → Option Nat) : Prop :=
  R b 0 = some (b + 1) ∧ R b 2 = some (b + 2) ∧ (∀ i, i < 13 → R (b + 1) i = some (b + 3 + 2 * pi i) ∧ pi i < 13) ∧ (∀ i, i < 6 → R (b + 2) i = some (b + 29 + i)) ∧ (∀ i, i < 13 → R (b + 3 + 2 * i) 4 = some (b + 4 + 2 * i)) ∧ ∀ i j, i < 13 → j < 13 → pi i = pi j → i = j
def cs_row (b : Nat) (pi : Nat → Nat) (i : Nat) : Nat := b + 3 + 2 * pi i
/-- the first of the rows from i on, k of them, whose path is p -/
def cs_fnd (I : Nat → Nat → Int32) (b : Nat) (pi : Nat → Nat) (p : Int32) : Nat → Nat → Option Nat
  | _, 0 => none
  | i, k + 1 => if I (cs_row b pi i) 0 = p then some i else cs_fnd I b pi p (i + 1) k
set_option maxHeartbeats 1000000 in
theorem l28 {L b n : Nat} {pi : Nat → Nat} {I : Nat → Nat → Int32} {R : Nat → Nat → Option Nat} {p : Int32} (hb : b = 2 ∨ b = 37) (hok : cs_ok b pi R) (hn : I b 1 = nI n) (hn13 : n ≤ 13) :
    ∀ (k i : Nat), i + k = n → mj_T pj_P 28 2 [.ref b, .int p, .int (nI i)] [] (mz_SH L, I, R) (fun r => r = (some (va_rf ((cs_fnd I b pi p i k).map (cs_row b pi))), (mz_SH L, I, R))) := by
  intro k
  have hS := sh_S L hb
  have hA := sh_A L hb
  induction k with
  | zero =>
    intro i hi
    have hin : i = n := by omega
    subst hin
    refine mj_b_iload_n (hE := fe_28_2) (hv := rfl) (k := ?_)
    refine mj_b_rload_n (hE := fe_28_3) (hv := rfl) (k := ?_)
    refine mj_b_getV (hE := fe_28_4) (hM := hS) (hv := hn) (k := ?_)
    refine mj_b_if2 (hE := fe_28_7) (kt := fun h => ?_) (kf := fun h => ?_)
    · refine mj_b_null (hE := fe_28_36) (k := ?_)
      exact mj_b_retN (hE := fe_28_37) (hi := in_28) rfl
    · simp [mj_cnd] at h
  | succ k ih =>
    intro i hi
    have h13 : i < 13 := by omega
    obtain ⟨hr1, hr2⟩ := hok.2.2.1 i h13
    have hrow := sh_R L hb hr2
    refine mj_b_iload_n (hE := fe_28_2) (hv := rfl) (k := ?_)
    refine mj_b_rload_n (hE := fe_28_3) (hv := rfl) (k := ?_)
    refine mj_b_getV (hE := fe_28_4) (hM := hS) (hv := hn) (k := ?_)
    refine mj_b_if2 (hE := fe_28_7) (kt := fun h => ?_) (kf := fun h => ?_)
    · simp only [mj_cnd, decide_eq_true_eq] at h
      exact absurd h (nI_ge (by omega) (by omega))
    · refine mj_b_rload_n (hE := fe_28_10) (hv := rfl) (k := ?_)
      refine mj_b_getQ (hE := fe_28_11) (hM := hS) (hv := hok.1) (k := ?_)
      refine mj_b_iload_n (hE := fe_28_14) (hv := rfl) (k := ?_)
      refine mj_b_aaldQ (hE := fe_28_15) (hM := hA) (ht := by decide) (hj := rfl) (hc := h13) (hn := by decide) (hv := hr1) (k := ?_)
      refine mj_b_getV (hE := fe_28_16) (hM := hrow) (hv := rfl) (k := ?_)
      refine mj_b_iload_n (hE := fe_28_19) (hv := rfl) (k := ?_)
      refine mj_b_if2 (hE := fe_28_20) (kt := fun g => ?_) (kf := fun g => ?_)
      · simp only [mj_cnd, Bool.not_eq_true', decide_eq_false_iff_not] at g
        refine mj_b_iinc (hE := fe_28_30) (hv := rfl) (k := ?_)
        refine mj_b_goto (hE := fe_28_33) (k := ?_)
        have e := (nI_succ i).symm
        refine (show mj_T pj_P 28 2 [.ref b, .int p, .int (nI i + 1)] [] (mz_SH L, I, R) _ from ?_)
        rw [e]
        exact (ih (i + 1) (by omega)).mono (fun s hs => by rw [hs]; simp only [cs_fnd]; rw [if_neg (show ¬ I (cs_row b pi i) 0 = p from g)])
      · simp only [mj_cnd, Bool.not_eq_false', decide_eq_true_eq] at g
        refine mj_b_rload_n (hE := fe_28_23) (hv := rfl) (k := ?_)
        refine mj_b_getQ (hE := fe_28_24) (hM := hS) (hv := hok.1) (k := ?_)
        refine mj_b_iload_n (hE := fe_28_27) (hv := rfl) (k := ?_)
        refine mj_b_aaldQ (hE := fe_28_28) (hM := hA) (ht := by decide) (hj := rfl) (hc := h13) (hn := by decide) (hv := hr1) (k := ?_)
        exact mj_b_retQ (hE := fe_28_29) (hi := in_28) (by simp only [cs_fnd]; rw [if_pos (show I (cs_row b pi i) 0 = p from g)]; rfl)
/-- Store.find -/
theorem g28 {L b n : Nat} {pi : Nat → Nat} {I : Nat → Nat → Int32} {R : Nat → Nat → Option Nat} (p : Int32) (hb : b = 2 ∨ b = 37) (hok : cs_ok b pi R) (hn : I b 1 = nI n) (hn13 : n ≤ 13) :
    mj_G pj_P 28 [.ref b, .int p] (mz_SH L, I, R) (fun r => r = (some (va_rf ((cs_fnd I b pi p 0 n).map (cs_row b pi))), (mz_SH L, I, R))) := by
  refine mj_enter in_28 (L := [.ref b, .int p, .retAddr 0]) rfl ?_
  refine mj_b_iconst (hE := fe_28_0) (k := ?_)
  refine mj_b_istore_n (hE := fe_28_1) (hx := Nat.le_of_ble_eq_true rfl) (k := ?_)
  exact l28 hb hok hn hn13 n 0 (by omega)
def cs_has (I : Nat → Nat → Int32) (b : Nat) (pi : Nat → Nat) (n : Nat) (p : Int32) : Bool := (cs_fnd I b pi p 0 n).isSome
/-- Store.has -/
theorem g32 {L b n : Nat} {pi : Nat → Nat} {I : Nat → Nat → Int32} {R : Nat → Nat → Option Nat} (p : Int32) (hb : b = 2 ∨ b = 37) (hok : cs_ok b pi R) (hn : I b 1 = nI n) (hn13 : n ≤ 13) :
    mj_G pj_P 32 [.ref b, .int p] (mz_SH L, I, R) (fun r => r = (some (.int (pz (cs_has I b pi n p))), (mz_SH L, I, R))) := by
  refine mj_enter in_32 (L := [.ref b, .int p]) rfl ?_
  refine mj_b_rload_n (hE := fe_32_0) (hv := rfl) (k := ?_)
  refine mj_b_iload_n (hE := fe_32_1) (hv := rfl) (k := ?_)
  refine mj_b_callR (hE := fe_32_2) (hi := in_28) (h1 := g28 p hb hok hn hn13) (hc := mj_cok_v rfl rfl (sh_S L hb)) (ha := rfl) (hr := rfl) ?_
  refine mj_b_nul (hE := fe_32_5) (kn := fun h => ?_) (ks := fun ha h => ?_)
  · simp only [Option.map_eq_none_iff] at h
    refine mj_b_iconst (hE := fe_32_12) (k := ?_)
    exact mj_b_retZ (hE := fe_32_13) (hi := in_32) (Or.inl rfl) (by simp [cs_has, pz, h])
  · obtain ⟨i, hi, -⟩ := Option.map_eq_some_iff.mp h
    refine mj_b_iconst (hE := fe_32_8) (k := ?_)
    refine mj_b_goto (hE := fe_32_9) (k := ?_)
    exact mj_b_retZ (hE := fe_32_13) (hi := in_32) (Or.inr rfl) (by simp [cs_has, pz, hi])
def cs_coll (I : Nat → Nat → Int32) (b : Nat) (pi : Nat → Nat) (n : Nat) (p : Int32) : Bool := match cs_fnd I b pi p 0 n with
  | some i => decide (I (cs_row b pi i) 1 = 2)
  | none => false
theorem cs_fnd_lt {I : Nat → Nat → Int32} {b : Nat} {pi : Nat → Nat} {p : Int32} {j : Nat} : ∀ (k i : Nat), cs_fnd I b pi p i k = some j → i ≤ j ∧ j < i + k ∧ I (cs_row b pi j) 0 = p := by
  intro k
  induction k with
  | zero => intro i h; simp [cs_fnd] at h
  | succ k ih =>
    intro i h
    simp only [cs_fnd] at h
    split at h
    · rename_i h1
      cases h
      exact ⟨Nat.le_refl _, by omega, h1⟩
    · obtain ⟨a1, a2, a3⟩ := ih (i + 1) h
      exact ⟨by omega, by omega, a3⟩
/-- Store.hasCollection -/
theorem g30 {L b n : Nat} {pi : Nat → Nat} {I : Nat → Nat → Int32} {R : Nat → Nat → Option Nat} (p : Int32) (hb : b = 2 ∨ b = 37) (hok : cs_ok b pi R) (hn : I b 1 = nI n) (hn13 : n ≤ 13) :
    mj_G pj_P 30 [.ref b, .int p] (mz_SH L, I, R) (fun r => r = (some (.int (pz (cs_coll I b pi n p))), (mz_SH L, I, R))) := by
  refine mj_enter in_30 (L := [.ref b, .int p, .retAddr 0]) rfl ?_
  refine mj_b_rload_n (hE := fe_30_0) (hv := rfl) (k := ?_)
  refine mj_b_iload_n (hE := fe_30_1) (hv := rfl) (k := ?_)
  refine mj_b_callR (hE := fe_30_2) (hi := in_28) (h1 := g28 p hb hok hn hn13) (hc := mj_cok_v rfl rfl (sh_S L hb)) (ha := rfl) (hr := rfl) ?_
  generalize hv : (cs_fnd I b pi p 0 n).map (cs_row b pi) = v
  refine mj_b_astore_n (hE := fe_30_5) (hx := Nat.le_of_ble_eq_true rfl) (k := ?_)
  refine mj_b_aload_n (hE := fe_30_6) (hv := rfl) (k := ?_)
  refine mj_b_nul (hE := fe_30_7) (kn := fun h => ?_) (ks := fun ha h => ?_)
  · subst h
    simp only [Option.map_eq_none_iff] at hv
    refine mj_b_iconst (hE := fe_30_22) (k := ?_)
    exact mj_b_retZ (hE := fe_30_23) (hi := in_30) (Or.inl rfl) (by simp [cs_coll, pz, hv])
  · subst h
    obtain ⟨i, hi, hia⟩ := Option.map_eq_some_iff.mp hv
    have hlt := cs_fnd_lt _ _ hi
    have hrow := sh_R L hb (hok.2.2.1 i (by omega)).2
    have hia' : b + 3 + 2 * pi i = ha := hia
    rw [hia'] at hrow
    refine mj_b_rload_n (hE := fe_30_10) (hv := rfl) (k := ?_)
    refine mj_b_getV (hE := fe_30_11) (hM := hrow) (hv := rfl) (k := ?_)
    refine mj_b_iconst (hE := fe_30_14) (k := ?_)
    refine mj_b_if2 (hE := fe_30_15) (kt := fun g => ?_) (kf := fun g => ?_)
    · simp only [mj_cnd, Bool.not_eq_true', decide_eq_false_iff_not] at g
      refine mj_b_iconst (hE := fe_30_22) (k := ?_)
      exact mj_b_retZ (hE := fe_30_23) (hi := in_30) (Or.inl rfl) (by simp [cs_coll, pz, hi, hia, g])
    · simp only [mj_cnd, Bool.not_eq_false', decide_eq_true_eq] at g
      refine mj_b_iconst (hE := fe_30_18) (k := ?_)
      refine mj_b_goto (hE := fe_30_19) (k := ?_)
      exact mj_b_retZ (hE := fe_30_23) (hi := in_30) (Or.inr rfl) (by simp [cs_coll, pz, hi, hia, g])
/-- Store.isFull -/
theorem g36 {L b n : Nat} {pi : Nat → Nat} {I : Nat → Nat → Int32} {R : Nat → Nat → Option Nat} (hb : b = 2 ∨ b = 37) (hok : cs_ok b pi R) (hn : I b 1 = nI n) :
    mj_G pj_P 36 [.ref b] (mz_SH L, I, R) (fun r => r = (some (.int (pz (!decide (nI n < Int32.ofNat 13)))), (mz_SH L, I, R))) := by
  have hS := sh_S L hb
  have hA := sh_A L hb
  refine mj_enter in_36 (L := [.ref b]) rfl ?_
  refine mj_b_rload_n (hE := fe_36_0) (hv := rfl) (k := ?_)
  refine mj_b_getV (hE := fe_36_1) (hM := hS) (hv := hn) (k := ?_)
  refine mj_b_rload_n (hE := fe_36_4) (hv := rfl) (k := ?_)
  refine mj_b_getQ (hE := fe_36_5) (hM := hS) (hv := hok.1) (k := ?_)
  refine mj_b_len (hE := fe_36_8) (hM := hA) (ht := Or.inr (by decide)) (k := ?_)
  refine mj_b_if2 (hE := fe_36_9) (kt := fun h => ?_) (kf := fun h => ?_)
  · simp only [mj_cnd, decide_eq_true_eq] at h
    refine mj_b_iconst (hE := fe_36_16) (k := ?_)
    exact mj_b_retZ (hE := fe_36_17) (hi := in_36) (Or.inl rfl) (by rw [decide_eq_true h]; rfl)
  · simp only [mj_cnd, decide_eq_false_iff_not] at h
    refine mj_b_iconst (hE := fe_36_12) (k := ?_)
    refine mj_b_goto (hE := fe_36_13) (k := ?_)
    exact mj_b_retZ (hE := fe_36_17) (hi := in_36) (Or.inr rfl) (by rw [decide_eq_false h]; rfl)
def cl_cov (I : Nat → Nat → Int32) (a : Nat) (dp : Bool) (p : Int32) : Bool := decide (p = I a 1) || (dp && pf_below p (I a 1))
/-- Lock.covers -/
theorem g25 {L a : Nat} {I : Nat → Nat → Int32} {R : Nat → Nat → Option Nat} {dp : Bool} (p : Int32) (hM : (mz_SH L)[a]? = some (3, 5)) (hd : I a 4 = pz dp) :
    mj_G pj_P 25 [.ref a, .int p] (mz_SH L, I, R) (fun r => r = (some (.int (pz (cl_cov I a dp p))), (mz_SH L, I, R))) := by
  refine mj_enter in_25 (L := [.ref a, .int p]) rfl ?_
  refine mj_b_iload_n (hE := fe_25_0) (hv := rfl) (k := ?_)
  refine mj_b_rload_n (hE := fe_25_1) (hv := rfl) (k := ?_)
  refine mj_b_getV (hE := fe_25_2) (hM := hM) (hv := rfl) (k := ?_)
  refine mj_b_if2 (hE := fe_25_5) (kt := fun h5 => ?_) (kf := fun h5 => ?_)
  · simp only [mj_cnd, decide_eq_true_eq, decide_eq_false_iff_not, Bool.not_eq_true', Bool.not_eq_false', pz_0, Bool.not_eq_false, Bool.not_eq_true] at h5
    refine mj_b_iconst (hE := fe_25_26) (k := ?_)
    refine mj_b_goto (hE := fe_25_27) (k := ?_)
    exact mj_b_retZ (hE := fe_25_31) (hi := in_25) (by first | decide | exact pz_01 _) (by first | (simp [cl_cov, pz, h5]; done) | (simp_all [cl_cov, pz]; done) | rfl)
  · simp only [mj_cnd, decide_eq_true_eq, decide_eq_false_iff_not, Bool.not_eq_true', Bool.not_eq_false', pz_0, Bool.not_eq_false, Bool.not_eq_true] at h5
    refine mj_b_rload_n (hE := fe_25_8) (hv := rfl) (k := ?_)
    refine mj_b_getV (hE := fe_25_9) (hM := hM) (hv := hd) (k := ?_)
    refine mj_b_if1 (hE := fe_25_12) (kt := fun h12 => ?_) (kf := fun h12 => ?_)
    · simp only [mj_cnd, decide_eq_true_eq, decide_eq_false_iff_not, Bool.not_eq_true', Bool.not_eq_false', pz_0, Bool.not_eq_false, Bool.not_eq_true] at h12
      refine mj_b_iconst (hE := fe_25_30) (k := ?_)
      exact mj_b_retZ (hE := fe_25_31) (hi := in_25) (by first | decide | exact pz_01 _) (by first | (simp [cl_cov, pz, h5, h12]; done) | (simp_all [cl_cov, pz]; done) | rfl)
    · simp only [mj_cnd, decide_eq_true_eq, decide_eq_false_iff_not, Bool.not_eq_true', Bool.not_eq_false', pz_0, Bool.not_eq_false, Bool.not_eq_true] at h12
      refine mj_b_iload_n (hE := fe_25_15) (hv := rfl) (k := ?_)
      refine mj_b_rload_n (hE := fe_25_16) (hv := rfl) (k := ?_)
      refine mj_b_getV (hE := fe_25_17) (hM := hM) (hv := rfl) (k := ?_)
      refine mj_b_callR (hE := fe_25_20) (hi := in_26) (h1 := g26 _ _ _) (hc := mj_cok_s rfl) (ha := rfl) (hr := rfl) ?_
      refine mj_b_if1 (hE := fe_25_23) (kt := fun h23 => ?_) (kf := fun h23 => ?_)
      · simp only [mj_cnd, decide_eq_true_eq, decide_eq_false_iff_not, Bool.not_eq_true', Bool.not_eq_false', pz_0, Bool.not_eq_false, Bool.not_eq_true] at h23
        refine mj_b_iconst (hE := fe_25_30) (k := ?_)
        exact mj_b_retZ (hE := fe_25_31) (hi := in_25) (by first | decide | exact pz_01 _) (by first | (simp [cl_cov, pz, h5, h12, h23]; done) | (simp_all [cl_cov, pz]; done) | rfl)
      · simp only [mj_cnd, decide_eq_true_eq, decide_eq_false_iff_not, Bool.not_eq_true', Bool.not_eq_false', pz_0, Bool.not_eq_false, Bool.not_eq_true] at h23
        refine mj_b_iconst (hE := fe_25_26) (k := ?_)
        refine mj_b_goto (hE := fe_25_27) (k := ?_)
        exact mj_b_retZ (hE := fe_25_31) (hi := in_25) (by first | decide | exact pz_01 _) (by first | (simp [cl_cov, pz, h5, h12, h23]; done) | (simp_all [cl_cov, pz]; done) | rfl)
/-- the first of the locks from i on, k of them, whose token is t -/
def cl_fnd (I : Nat → Nat → Int32) (b : Nat) (t : Int32) : Nat → Nat → Option Nat
  | _, 0 => none
  | i, k + 1 => if I (b + 29 + i) 0 = t then some i else cl_fnd I b t (i + 1) k
set_option maxHeartbeats 1000000 in
theorem l24 {L b n : Nat} {pi : Nat → Nat} {I : Nat → Nat → Int32} {R : Nat → Nat → Option Nat} {p : Int32} (hb : b = 2 ∨ b = 37) (hok : cs_ok b pi R) (hn : I b 3 = nI n) (hn6 : n ≤ 6) :
    ∀ (k i : Nat), i + k = n → mj_T pj_P 24 2 [.ref b, .int p, .int (nI i)] [] (mz_SH L, I, R) (fun r => r = (some (va_rf ((cl_fnd I b p i k).map (fun i => b + 29 + i))), (mz_SH L, I, R))) := by
  intro k
  have hS := sh_S L hb
  have hA := sh_K L hb
  induction k with
  | zero =>
    intro i hi
    have hin : i = n := by omega
    subst hin
    refine mj_b_iload_n (hE := fe_24_2) (hv := rfl) (k := ?_)
    refine mj_b_rload_n (hE := fe_24_3) (hv := rfl) (k := ?_)
    refine mj_b_getV (hE := fe_24_4) (hM := hS) (hv := hn) (k := ?_)
    refine mj_b_if2 (hE := fe_24_7) (kt := fun h => ?_) (kf := fun h => ?_)
    · refine mj_b_null (hE := fe_24_36) (k := ?_)
      exact mj_b_retN (hE := fe_24_37) (hi := in_24) rfl
    · simp [mj_cnd] at h
  | succ k ih =>
    intro i hi
    have h6 : i < 6 := by omega
    have hr1 := hok.2.2.2.1 i h6
    have hrow := sh_L L hb h6
    refine mj_b_iload_n (hE := fe_24_2) (hv := rfl) (k := ?_)
    refine mj_b_rload_n (hE := fe_24_3) (hv := rfl) (k := ?_)
    refine mj_b_getV (hE := fe_24_4) (hM := hS) (hv := hn) (k := ?_)
    refine mj_b_if2 (hE := fe_24_7) (kt := fun h => ?_) (kf := fun h => ?_)
    · simp only [mj_cnd, decide_eq_true_eq] at h
      exact absurd h (nI_ge (by omega) (by omega))
    · refine mj_b_rload_n (hE := fe_24_10) (hv := rfl) (k := ?_)
      refine mj_b_getQ (hE := fe_24_11) (hM := hS) (hv := hok.2.1) (k := ?_)
      refine mj_b_iload_n (hE := fe_24_14) (hv := rfl) (k := ?_)
      refine mj_b_aaldQ (hE := fe_24_15) (hM := hA) (ht := by decide) (hj := rfl) (hc := h6) (hn := by decide) (hv := hr1) (k := ?_)
      refine mj_b_getV (hE := fe_24_16) (hM := hrow) (hv := rfl) (k := ?_)
      refine mj_b_iload_n (hE := fe_24_19) (hv := rfl) (k := ?_)
      refine mj_b_if2 (hE := fe_24_20) (kt := fun g => ?_) (kf := fun g => ?_)
      · simp only [mj_cnd, Bool.not_eq_true', decide_eq_false_iff_not] at g
        refine mj_b_iinc (hE := fe_24_30) (hv := rfl) (k := ?_)
        refine mj_b_goto (hE := fe_24_33) (k := ?_)
        have e := (nI_succ i).symm
        refine (show mj_T pj_P 24 2 [.ref b, .int p, .int (nI i + 1)] [] (mz_SH L, I, R) _ from ?_)
        rw [e]
        exact (ih (i + 1) (by omega)).mono (fun s hs => by rw [hs]; simp only [cl_fnd]; rw [if_neg g])
      · simp only [mj_cnd, Bool.not_eq_false', decide_eq_true_eq] at g
        refine mj_b_rload_n (hE := fe_24_23) (hv := rfl) (k := ?_)
        refine mj_b_getQ (hE := fe_24_24) (hM := hS) (hv := hok.2.1) (k := ?_)
        refine mj_b_iload_n (hE := fe_24_27) (hv := rfl) (k := ?_)
        refine mj_b_aaldQ (hE := fe_24_28) (hM := hA) (ht := by decide) (hj := rfl) (hc := h6) (hn := by decide) (hv := hr1) (k := ?_)
        exact mj_b_retQ (hE := fe_24_29) (hi := in_24) (by simp only [cl_fnd]; rw [if_pos g]; rfl)
/-- Store.findLock -/
theorem g24 {L b n : Nat} {pi : Nat → Nat} {I : Nat → Nat → Int32} {R : Nat → Nat → Option Nat} (p : Int32) (hb : b = 2 ∨ b = 37) (hok : cs_ok b pi R) (hn : I b 3 = nI n) (hn6 : n ≤ 6) :
    mj_G pj_P 24 [.ref b, .int p] (mz_SH L, I, R) (fun r => r = (some (va_rf ((cl_fnd I b p 0 n).map (fun i => b + 29 + i))), (mz_SH L, I, R))) := by
  refine mj_enter in_24 (L := [.ref b, .int p, .retAddr 0]) rfl ?_
  refine mj_b_iconst (hE := fe_24_0) (k := ?_)
  refine mj_b_istore_n (hE := fe_24_1) (hx := Nat.le_of_ble_eq_true rfl) (k := ?_)
  exact l24 hb hok hn hn6 n 0 (by omega)
