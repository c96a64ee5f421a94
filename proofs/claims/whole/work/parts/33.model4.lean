/-! ===== the model: lockOf, property, listing, the header's characters ===== -/
section MC
variable {P : mj_P} {f pc nx x y w : Nat} {L st : List Value} {M : mj_H} {Q : Option Value × mj_H → Prop} {z : Int32} {tb : List (Int × Nat)}
theorem mj_b_caldN {i v : Int32} {a n c : Nat} (hE : P.1 f pc = some (.caload, nx, x, y, 0, z, tb)) (hM : M.1[a]? = some (67, n)) (hj : i = nI c) (hc : c < n) (hn : n < 2 ^ 31) (hv : M.2.1 a c = v) (k : mj_T P f nx L (.int v :: st) M Q) : mj_T P f pc L (.int i :: .ref a :: st) M Q := by
  subst hj; subst hv
  refine mj_b_cald hE (by decide) (by decide) hM (mj_ix_nI hc hn) ?_
  rw [nI_clamp (by omega)]
  exact k
end MC
section MU
variable {L n sd nl ns : Nat} {I : Nat → Nat → Int32} {R : Nat → Nat → Option Nat} {wh lo fo : Nat → Bool}
def mm_lkv (I : Nat → Nat → Int32) (l : Nat) (lo wh : Bool) : Int64 := (I 97 l).toInt64 * Int64.ofInt 16384 + Int64.ofInt 4 * (I 94 l).toInt64 + (if wh = true then Int64.ofInt 2 else Int64.ofInt 0) + (if lo = true then Int64.ofInt 1 else Int64.ofInt 0)
def mm_lko (I : Nat → Nat → Int32) (lo wh : Nat → Bool) (t : Int32) : Nat → Nat → Int64
  | _, 0 => Int64.ofInt (-1)
  | i, k + 1 => if I 93 i = t then mm_lkv I i (lo i) (wh i) else mm_lko I lo wh t (i + 1) k
set_option maxHeartbeats 2000000 in
theorem l135 {t : Int32} (hm : mm_ok R) (hk : mm_lk nl ns wh I) (hlo : ∀ l, l < nl → I 95 l = pz (lo l)) :
    ∀ (m i : Nat), i + m = nl → mj_T pj_P 135 2 [.ref 87, .int t, .int (nI i)] [] (mz_SH L, I, R) (fun s => s = (some (.long (mm_lko I lo wh t i m)), (mz_SH L, I, R))) := by
  obtain ⟨q0, q1, q2, q3, q4, q5, q6, q7, q8, q9, q10, q11, q16, q21⟩ := hm
  obtain ⟨⟨hl1, hl2⟩, -, hwh⟩ := hk
  have h87 := sm_87 L
  have h93 := sm_93 L
  have h94 := sm_94 L
  have h95 := sm_95 L
  have h96 := sm_96 L
  have h97 := sm_97 L
  have h98 := sm_98 L
  intro m
  induction m with
  | zero =>
    intro i hi
    have hin : i = nl := by omega
    subst hin
    refine mj_b_iload_n (hE := fe_135_2) (hv := rfl) (k := ?_)
    refine mj_b_rload_n (hE := fe_135_3) (hv := rfl) (k := ?_)
    refine mj_b_getQ (hE := fe_135_4) (hM := by assumption) (hv := by assumption) (k := ?_)
    refine mj_b_iconst (hE := fe_135_7) (k := ?_)
    refine mj_b_ialdN (hE := fe_135_8) (hM := h98) (ht := Or.inr rfl) (hj := show (1 : Int32) = nI 1 from rfl) (hc := by decide) (hn := by decide) (hv := hl1) (k := ?_)
    refine mj_b_if2 (hE := fe_135_9) (kt := fun h => ?_) (kf := fun h => ?_)
    · refine mj_b_ldc2 (hE := fe_135_84) (k := ?_)
      exact mj_b_retL (hE := fe_135_87) (hi := in_135) (by first | (simp [mm_lko, pz]; done) | (simp_all [mm_lko, pz]; done) | rfl)
    · simp [mj_cnd] at h
  | succ m ih =>
    intro i hi
    have hw1 := hwh i (by omega)
    have hlo1 := hlo i (by omega)
    have hnx : ∀ Q, mj_T pj_P 135 2 [.ref 87, .int t, .int (nI (i + 1))] [] (mz_SH L, I, R) Q → mj_T pj_P 135 78 [.ref 87, .int t, .int (nI i)] [] (mz_SH L, I, R) Q := by
      intro Q hQ
      refine mj_b_iinc (hE := fe_135_78) (hv := rfl) (k := ?_)
      refine mj_b_goto (hE := fe_135_81) (k := ?_)
      exact (show mj_T pj_P 135 2 [.ref 87, .int t, .int (nI i + 1)] [] (mz_SH L, I, R) Q from (nI_succ i) ▸ hQ)
    refine mj_b_iload_n (hE := fe_135_2) (hv := rfl) (k := ?_)
    refine mj_b_rload_n (hE := fe_135_3) (hv := rfl) (k := ?_)
    refine mj_b_getQ (hE := fe_135_4) (hM := by assumption) (hv := by assumption) (k := ?_)
    refine mj_b_iconst (hE := fe_135_7) (k := ?_)
    refine mj_b_ialdN (hE := fe_135_8) (hM := h98) (ht := Or.inr rfl) (hj := show (1 : Int32) = nI 1 from rfl) (hc := by decide) (hn := by decide) (hv := hl1) (k := ?_)
    refine mj_b_if2 (hE := fe_135_9) (kt := fun h => ?_) (kf := fun h => ?_)
    · simp only [mj_cnd, decide_eq_true_eq] at h
      exact absurd h (nI_ge (by omega) (by omega))
    · refine mj_b_rload_n (hE := fe_135_12) (hv := rfl) (k := ?_)
      refine mj_b_getQ (hE := fe_135_13) (hM := by assumption) (hv := by assumption) (k := ?_)
      refine mj_b_iload_n (hE := fe_135_16) (hv := rfl) (k := ?_)
      refine mj_b_ialdN (hE := fe_135_17) (hM := by assumption) (ht := Or.inr rfl) (hj := rfl) (hc := by omega) (hn := by decide) (hv := rfl) (k := ?_)
      refine mj_b_iload_n (hE := fe_135_18) (hv := rfl) (k := ?_)
      refine mj_b_if2 (hE := fe_135_19) (kt := fun h19 => ?_) (kf := fun h19 => ?_)
      · simp only [mj_cnd, decide_eq_true_eq, decide_eq_false_iff_not, Bool.not_eq_true', Bool.not_eq_false', pz_0, Bool.not_eq_false, Bool.not_eq_true] at h19
        exact hnx _ ((ih (i + 1) (by omega)).mono (fun s hs => by rw [hs]; simp [mm_lko, h19]))
      · simp only [mj_cnd, decide_eq_true_eq, decide_eq_false_iff_not, Bool.not_eq_true', Bool.not_eq_false', pz_0, Bool.not_eq_false, Bool.not_eq_true] at h19
        refine mj_b_rload_n (hE := fe_135_22) (hv := rfl) (k := ?_)
        refine mj_b_getQ (hE := fe_135_23) (hM := by assumption) (hv := by assumption) (k := ?_)
        refine mj_b_iload_n (hE := fe_135_26) (hv := rfl) (k := ?_)
        refine mj_b_ialdN (hE := fe_135_27) (hM := by assumption) (ht := Or.inr rfl) (hj := rfl) (hc := by omega) (hn := by decide) (hv := rfl) (k := ?_)
        refine mj_b_i2l (hE := fe_135_28) (k := ?_)
        refine mj_b_ldc2 (hE := fe_135_29) (k := ?_)
        refine mj_b_lmul (hE := fe_135_32) (k := ?_)
        refine mj_b_ldc2 (hE := fe_135_33) (k := ?_)
        refine mj_b_rload_n (hE := fe_135_36) (hv := rfl) (k := ?_)
        refine mj_b_getQ (hE := fe_135_37) (hM := by assumption) (hv := by assumption) (k := ?_)
        refine mj_b_iload_n (hE := fe_135_40) (hv := rfl) (k := ?_)
        refine mj_b_ialdN (hE := fe_135_41) (hM := by assumption) (ht := Or.inr rfl) (hj := rfl) (hc := by omega) (hn := by decide) (hv := rfl) (k := ?_)
        refine mj_b_i2l (hE := fe_135_42) (k := ?_)
        refine mj_b_lmul (hE := fe_135_43) (k := ?_)
        refine mj_b_ladd (hE := fe_135_44) (k := ?_)
        refine mj_b_rload_n (hE := fe_135_45) (hv := rfl) (k := ?_)
        refine mj_b_getQ (hE := fe_135_46) (hM := by assumption) (hv := by assumption) (k := ?_)
        refine mj_b_iload_n (hE := fe_135_49) (hv := rfl) (k := ?_)
        refine mj_b_baldN (hE := fe_135_50) (hM := by assumption) (hj := rfl) (hc := by omega) (hn := by decide) (hv := by assumption) (k := ?_)
        refine mj_b_if1 (hE := fe_135_51) (kt := fun h51 => ?_) (kf := fun h51 => ?_)
        · simp only [mj_cnd, decide_eq_true_eq, decide_eq_false_iff_not, Bool.not_eq_true', Bool.not_eq_false', pz_0, Bool.not_eq_false, Bool.not_eq_true] at h51
          refine mj_b_lconst (hE := fe_135_60) (k := ?_)
          refine mj_b_ladd (hE := fe_135_61) (k := ?_)
          refine mj_b_rload_n (hE := fe_135_62) (hv := rfl) (k := ?_)
          refine mj_b_getQ (hE := fe_135_63) (hM := by assumption) (hv := by assumption) (k := ?_)
          refine mj_b_iload_n (hE := fe_135_66) (hv := rfl) (k := ?_)
          refine mj_b_baldN (hE := fe_135_67) (hM := by assumption) (hj := rfl) (hc := by omega) (hn := by decide) (hv := by assumption) (k := ?_)
          refine mj_b_if1 (hE := fe_135_68) (kt := fun h68 => ?_) (kf := fun h68 => ?_)
          · simp only [mj_cnd, decide_eq_true_eq, decide_eq_false_iff_not, Bool.not_eq_true', Bool.not_eq_false', pz_0, Bool.not_eq_false, Bool.not_eq_true] at h68
            refine mj_b_lconst (hE := fe_135_75) (k := ?_)
            refine mj_b_ladd (hE := fe_135_76) (k := ?_)
            exact mj_b_retL (hE := fe_135_77) (hi := in_135) (by first | (simp [mm_lko, mm_lkv, pz, h19, h51, h68]; done) | (simp_all [mm_lko, mm_lkv, pz]; done) | rfl)
          · simp only [mj_cnd, decide_eq_true_eq, decide_eq_false_iff_not, Bool.not_eq_true', Bool.not_eq_false', pz_0, Bool.not_eq_false, Bool.not_eq_true] at h68
            refine mj_b_lconst (hE := fe_135_71) (k := ?_)
            refine mj_b_goto (hE := fe_135_72) (k := ?_)
            refine mj_b_ladd (hE := fe_135_76) (k := ?_)
            exact mj_b_retL (hE := fe_135_77) (hi := in_135) (by first | (simp [mm_lko, mm_lkv, pz, h19, h51, h68]; done) | (simp_all [mm_lko, mm_lkv, pz]; done) | rfl)
        · simp only [mj_cnd, decide_eq_true_eq, decide_eq_false_iff_not, Bool.not_eq_true', Bool.not_eq_false', pz_0, Bool.not_eq_false, Bool.not_eq_true] at h51
          refine mj_b_ldc2 (hE := fe_135_54) (k := ?_)
          refine mj_b_goto (hE := fe_135_57) (k := ?_)
          refine mj_b_ladd (hE := fe_135_61) (k := ?_)
          refine mj_b_rload_n (hE := fe_135_62) (hv := rfl) (k := ?_)
          refine mj_b_getQ (hE := fe_135_63) (hM := by assumption) (hv := by assumption) (k := ?_)
          refine mj_b_iload_n (hE := fe_135_66) (hv := rfl) (k := ?_)
          refine mj_b_baldN (hE := fe_135_67) (hM := by assumption) (hj := rfl) (hc := by omega) (hn := by decide) (hv := by assumption) (k := ?_)
          refine mj_b_if1 (hE := fe_135_68) (kt := fun h68 => ?_) (kf := fun h68 => ?_)
          · simp only [mj_cnd, decide_eq_true_eq, decide_eq_false_iff_not, Bool.not_eq_true', Bool.not_eq_false', pz_0, Bool.not_eq_false, Bool.not_eq_true] at h68
            refine mj_b_lconst (hE := fe_135_75) (k := ?_)
            refine mj_b_ladd (hE := fe_135_76) (k := ?_)
            exact mj_b_retL (hE := fe_135_77) (hi := in_135) (by first | (simp [mm_lko, mm_lkv, pz, h19, h51, h68]; done) | (simp_all [mm_lko, mm_lkv, pz]; done) | rfl)
          · simp only [mj_cnd, decide_eq_true_eq, decide_eq_false_iff_not, Bool.not_eq_true', Bool.not_eq_false', pz_0, Bool.not_eq_false, Bool.not_eq_true] at h68
            refine mj_b_lconst (hE := fe_135_71) (k := ?_)
            refine mj_b_goto (hE := fe_135_72) (k := ?_)
            refine mj_b_ladd (hE := fe_135_76) (k := ?_)
            exact mj_b_retL (hE := fe_135_77) (hi := in_135) (by first | (simp [mm_lko, mm_lkv, pz, h19, h51, h68]; done) | (simp_all [mm_lko, mm_lkv, pz]; done) | rfl)
/-- LockedTreeModel.lockOf -/
theorem g135 (t : Int32) (hm : mm_ok R) (hk : mm_lk nl ns wh I) (hlo : ∀ l, l < nl → I 95 l = pz (lo l)) :
    mj_G pj_P 135 [.ref 87, .int t] (mz_SH L, I, R) (fun s => s = (some (.long (mm_lko I lo wh t 0 nl)), (mz_SH L, I, R))) := by
  refine mj_enter in_135 (L := [.ref 87, .int t, .retAddr 0]) rfl ?_
  refine mj_b_iconst (hE := fe_135_0) (k := ?_)
  refine mj_b_istore_n (hE := fe_135_1) (hx := Nat.le_of_ble_eq_true rfl) (k := ?_)
  exact l135 hm hk hlo nl 0 (by omega)
def mm_prp (I : Nat → Nat → Int32) (n : Nat) (p k : Int32) : Int32 := match mf_fnd I 0 p 0 n none with
  | some i => if k < 0 then -1 else if k ≤ 2 then I 92 (3 * i + k.toNatClampNeg) else -1
  | none => -1
/-- LockedTreeModel.property -/
theorem g133 (p k : Int32) (hm : mm_ok R) (hn : I 98 0 = nI n) (hn13 : n ≤ 13) :
    mj_G pj_P 133 [.ref 87, .int p, .int k] (mz_SH L, I, R) (fun r => r = (some (.int (mm_prp I n p k)), (mz_SH L, I, R))) := by
  have hm0 := hm
  obtain ⟨q0, q1, q2, q3, q4, q5, q6, q7, q8, q9, q10, q11, q16, q21⟩ := hm
  have h87 := sm_87 L
  have h92 := sm_92 L
  refine mj_enter in_133 (L := [.ref 87, .int p, .int k, .retAddr 0]) rfl ?_
  refine mj_b_rload_n (hE := fe_133_0) (hv := rfl) (k := ?_)
  refine mj_b_iload_n (hE := fe_133_1) (hv := rfl) (k := ?_)
  refine mj_b_iconst (hE := fe_133_2) (k := ?_)
  refine mj_b_callR (hE := fe_133_3) (hi := in_101) (h1 := g101 (sd := 0) p hm0 (Or.inl rfl) hn hn13) (hc := mj_cok_v rfl rfl h87) (ha := rfl) (hr := rfl) ?_
  cases ho : mf_fnd I 0 p 0 n none with
  | none =>
    refine mj_b_istore_n (hE := fe_133_6) (hx := Nat.le_of_ble_eq_true rfl) (k := ?_)
    refine mj_b_iload_n (hE := fe_133_7) (hv := rfl) (k := ?_)
    refine mj_b_if1 (hE := fe_133_8) (kt := fun h => ?_) (kf := fun h => ?_)
    · refine mj_b_iconst (hE := fe_133_20) (k := ?_)
      refine mj_b_goto (hE := fe_133_21) (k := ?_)
      exact mj_b_retI (hE := fe_133_34) (hi := in_133) (by simp [mm_prp, ho])
    · exact absurd h (by decide)
  | some i =>
    have hlt := mf_fnd_lt ho
    refine mj_b_istore_n (hE := fe_133_6) (hx := Nat.le_of_ble_eq_true rfl) (k := ?_)
    refine mj_b_iload_n (hE := fe_133_7) (hv := rfl) (k := ?_)
    refine mj_b_if1 (hE := fe_133_8) (kt := fun h => ?_) (kf := fun h => ?_)
    · exact absurd (of_decide_eq_true h) (nI_pos (n := 0 + i) (by omega))
    · refine mj_b_iload_n (hE := fe_133_11) (hv := rfl) (k := ?_)
      refine mj_b_if1 (hE := fe_133_12) (kt := fun g => ?_) (kf := fun g => ?_)
      · simp only [mj_cnd, decide_eq_true_eq] at g
        refine mj_b_iconst (hE := fe_133_20) (k := ?_)
        refine mj_b_goto (hE := fe_133_21) (k := ?_)
        exact mj_b_retI (hE := fe_133_34) (hi := in_133) (by simp [mm_prp, ho, g])
      · simp only [mj_cnd, decide_eq_false_iff_not] at g
        refine mj_b_iload_n (hE := fe_133_15) (hv := rfl) (k := ?_)
        refine mj_b_iconst (hE := fe_133_16) (k := ?_)
        refine mj_b_if2 (hE := fe_133_17) (kt := fun j => ?_) (kf := fun j => ?_)
        · simp only [mj_cnd, decide_eq_true_eq] at j
          have hk := i32_nI g
          have hk2 : k.toInt.toNat ≤ 2 := by
            rw [Int32.le_iff_toInt_le] at j
            have e2 : (2 : Int32).toInt = 2 := by decide
            rw [e2] at j
            omega
          have hcl : k.toNatClampNeg = k.toInt.toNat := by rw [hk, nI_clamp (by omega), nI_toInt (by omega)]; rfl
          have hj2 : (3 : Int32) * nI (0 + i) + k = nI (3 * i + k.toInt.toNat) := by
            rw [Nat.zero_add, show (3 : Int32) = nI 3 from rfl, mi_mul]
            conv => lhs; rw [hk]
            rw [nI_add]
          refine mj_b_rload_n (hE := fe_133_24) (hv := rfl) (k := ?_)
          refine mj_b_getQ (hE := fe_133_25) (hM := by assumption) (hv := by assumption) (k := ?_)
          refine mj_b_iconst (hE := fe_133_28) (k := ?_)
          refine mj_b_iload_n (hE := fe_133_29) (hv := rfl) (k := ?_)
          refine mj_b_imul (hE := fe_133_30) (k := ?_)
          refine mj_b_iload_n (hE := fe_133_31) (hv := rfl) (k := ?_)
          refine mj_b_iadd (hE := fe_133_32) (k := ?_)
          refine mj_b_ialdN (hE := fe_133_33) (hM := h92) (ht := Or.inr rfl) (hj := hj2) (hc := by omega) (hn := by decide) (hv := rfl) (k := ?_)
          exact mj_b_retI (hE := fe_133_34) (hi := in_133) (by simp only [mm_prp, ho]; rw [if_neg g, if_pos j, hcl])
        · simp only [mj_cnd, decide_eq_false_iff_not] at j
          refine mj_b_iconst (hE := fe_133_20) (k := ?_)
          refine mj_b_goto (hE := fe_133_21) (k := ?_)
          exact mj_b_retI (hE := fe_133_34) (hi := in_133) (by simp [mm_prp, ho, j])
/-- the k-th of the paths x, x + 1 .. (m of them) that are there -/
def mm_lsk (f : Nat → Bool) (k : Int32) : Nat → Nat → Int32 → Int32
  | 0, _, _ => -1
  | m + 1, x, c => if f x = true then (if c = k then nI x else mm_lsk f k m (x + 1) (c + 1)) else mm_lsk f k m (x + 1) c
set_option maxHeartbeats 2000000 in
theorem l138 {k : Int32} (hm : mm_ok R) (hn : I 98 0 = nI n) (hn13 : n ≤ 13) :
    ∀ (m x : Nat) (c : Int32), x + m = 4096 → mj_T pj_P 138 18 [.ref 87, .int k, .int c, .int (nI x)] [] (mz_SH L, I, R) (fun s => s = (some (.int (mm_lsk (fun x => mm_has I n (nI x)) k m x c)), (mz_SH L, I, R))) := by
  have h87 := sm_87 L
  intro m
  induction m with
  | zero =>
    intro x c hx
    have hx0 : x = 4096 := by omega
    subst hx0
    refine mj_b_iload_n (hE := fe_138_18) (hv := rfl) (k := ?_)
    refine mj_b_sipush (hE := fe_138_19) (k := ?_)
    refine mj_b_if2 (hE := fe_138_22) (kt := fun h => ?_) (kf := fun h => ?_)
    · refine mj_b_iconst (hE := fe_138_50) (k := ?_)
      exact mj_b_retI (hE := fe_138_51) (hi := in_138) (by first | (simp [mm_lsk, pz]; done) | (simp_all [mm_lsk, pz]; done) | rfl)
    · exact absurd h (by decide +kernel)
  | succ m ih =>
    intro x c hx
    have hnx : ∀ Q c, mj_T pj_P 138 18 [.ref 87, .int k, .int c, .int (nI (x + 1))] [] (mz_SH L, I, R) Q → mj_T pj_P 138 44 [.ref 87, .int k, .int c, .int (nI x)] [] (mz_SH L, I, R) Q := by
      intro Q c hQ
      refine mj_b_iinc (hE := fe_138_44) (hv := rfl) (k := ?_)
      refine mj_b_goto (hE := fe_138_47) (k := ?_)
      exact (show mj_T pj_P 138 18 [.ref 87, .int k, .int c, .int (nI x + 1)] [] (mz_SH L, I, R) Q from (nI_succ x) ▸ hQ)
    refine mj_b_iload_n (hE := fe_138_18) (hv := rfl) (k := ?_)
    refine mj_b_sipush (hE := fe_138_19) (k := ?_)
    refine mj_b_if2 (hE := fe_138_22) (kt := fun h => ?_) (kf := fun h => ?_)
    · simp only [mj_cnd, decide_eq_true_eq] at h
      exact absurd h (nI_nlt (a := 4095) (b := x) (by omega) (by omega))
    · refine mj_b_rload_n (hE := fe_138_25) (hv := rfl) (k := ?_)
      refine mj_b_iload_n (hE := fe_138_26) (hv := rfl) (k := ?_)
      refine mj_b_iconst (hE := fe_138_27) (k := ?_)
      refine mj_b_callR (hE := fe_138_28) (hi := in_101) (h1 := g101 (sd := 0) (nI x) hm (Or.inl rfl) hn hn13) (hc := mj_cok_v rfl rfl h87) (ha := rfl) (hr := rfl) ?_
      cases ho : mf_fnd I 0 (nI x) 0 n none with
      | none =>
        refine mj_b_if1 (hE := fe_138_31) (kt := fun g => ?_) (kf := fun g => ?_)
        · exact hnx _ _ ((ih (x + 1) _ (by omega)).mono (fun s hs => by rw [hs]; simp [mm_lsk, mm_has, ho]))
        · exact absurd g (by decide)
      | some i =>
        have hlt := mf_fnd_lt ho
        refine mj_b_if1 (hE := fe_138_31) (kt := fun g => ?_) (kf := fun g => ?_)
        · exact absurd (of_decide_eq_true g) (nI_pos (n := 0 + i) (by omega))
        · refine mj_b_iload_n (hE := fe_138_34) (hv := rfl) (k := ?_)
          refine mj_b_iload_n (hE := fe_138_35) (hv := rfl) (k := ?_)
          refine mj_b_if2 (hE := fe_138_36) (kt := fun h36 => ?_) (kf := fun h36 => ?_)
          · simp only [mj_cnd, decide_eq_true_eq, decide_eq_false_iff_not, Bool.not_eq_true', Bool.not_eq_false', pz_0, Bool.not_eq_false, Bool.not_eq_true] at h36
            refine mj_b_iinc (hE := fe_138_41) (hv := rfl) (k := ?_)
            exact hnx _ _ ((ih (x + 1) _ (by omega)).mono (fun s hs => by rw [hs]; simp [mm_lsk, mm_has, ho, h36]))
          · simp only [mj_cnd, decide_eq_true_eq, decide_eq_false_iff_not, Bool.not_eq_true', Bool.not_eq_false', pz_0, Bool.not_eq_false, Bool.not_eq_true] at h36
            refine mj_b_iload_n (hE := fe_138_39) (hv := rfl) (k := ?_)
            exact mj_b_retI (hE := fe_138_40) (hi := in_138) (by first | (simp [mm_lsk, mm_has, ho, pz, h36]; done) | (simp_all [mm_lsk, mm_has, ho, pz]; done) | rfl)
def mm_lst (I : Nat → Nat → Int32) (n : Nat) (k : Int32) : Int32 := if k = -1 then nI n - 1 else mm_lsk (fun x => mm_has I n (nI x)) k 4095 1 0
/-- LockedTreeModel.listing -/
theorem g138 (k : Int32) (hm : mm_ok R) (hn : I 98 0 = nI n) (hn13 : n ≤ 13) :
    mj_G pj_P 138 [.ref 87, .int k] (mz_SH L, I, R) (fun s => s = (some (.int (mm_lst I n k)), (mz_SH L, I, R))) := by
  have hm0 := hm
  obtain ⟨q0, q1, q2, q3, q4, q5, q6, q7, q8, q9, q10, q11, q16, q21⟩ := hm
  have h87 := sm_87 L
  have h98 := sm_98 L
  refine mj_enter in_138 (L := [.ref 87, .int k, .retAddr 0, .retAddr 0]) rfl ?_
  refine mj_b_iload_n (hE := fe_138_0) (hv := rfl) (k := ?_)
  refine mj_b_iconst (hE := fe_138_1) (k := ?_)
  refine mj_b_if2 (hE := fe_138_2) (kt := fun h => ?_) (kf := fun h => ?_)
  · simp only [mj_cnd, Bool.not_eq_true', decide_eq_false_iff_not] at h
    refine mj_b_iconst (hE := fe_138_14) (k := ?_)
    refine mj_b_istore_n (hE := fe_138_15) (hx := Nat.le_of_ble_eq_true rfl) (k := ?_)
    refine mj_b_iconst (hE := fe_138_16) (k := ?_)
    refine mj_b_istore_n (hE := fe_138_17) (hx := Nat.le_of_ble_eq_true rfl) (k := ?_)
    exact (l138 hm0 hn hn13 4095 1 0 (by omega)).mono (fun s hs => by rw [hs]; simp [mm_lst, h])
  · simp only [mj_cnd, Bool.not_eq_false', decide_eq_true_eq] at h
    refine mj_b_rload_n (hE := fe_138_5) (hv := rfl) (k := ?_)
    refine mj_b_getQ (hE := fe_138_6) (hM := by assumption) (hv := by assumption) (k := ?_)
    refine mj_b_iconst (hE := fe_138_9) (k := ?_)
    refine mj_b_ialdN (hE := fe_138_10) (hM := h98) (ht := Or.inr rfl) (hj := show (0 : Int32) = nI 0 from rfl) (hc := by decide) (hn := by decide) (hv := hn) (k := ?_)
    refine mj_b_iconst (hE := fe_138_11) (k := ?_)
    refine mj_b_isub (hE := fe_138_12) (k := ?_)
    exact mj_b_retI (hE := fe_138_13) (hi := in_138) (by simp [mm_lst, h])
/-- the model sees c at the place at of its nh characters -/
def mm_see (I : Nat → Nat → Int32) (at' nh : Nat) (c : Int32) : Bool := !decide (nI nh ≤ nI at') && decide (I 99 at' = c)
/-- LockedTreeModel.sees -/
theorem g95 {at' nh : Nat} (c : Int32) (hm : mm_ok R) (ha : I 87 13 = nI at') (hat : at' < 100) (hh : I 87 12 = nI nh) (hh24 : nh ≤ 24) :
    mj_G pj_P 95 [.ref 87, .int c] (mz_SH L, I, R) (fun s => s = (some (.int (pz (mm_see I at' nh c))), (mz_SH L, I, R))) := by
  obtain ⟨q0, q1, q2, q3, q4, q5, q6, q7, q8, q9, q10, q11, q16, q21⟩ := hm
  have h87 := sm_87 L
  have h99 := sm_99 L
  refine mj_enter in_95 (L := [.ref 87, .int c]) rfl ?_
  refine mj_b_rload_n (hE := fe_95_0) (hv := rfl) (k := ?_)
  refine mj_b_getV (hE := fe_95_1) (hM := by assumption) (hv := by assumption) (k := ?_)
  refine mj_b_rload_n (hE := fe_95_4) (hv := rfl) (k := ?_)
  refine mj_b_getV (hE := fe_95_5) (hM := by assumption) (hv := by assumption) (k := ?_)
  refine mj_b_if2 (hE := fe_95_8) (kt := fun h => ?_) (kf := fun h => ?_)
  · simp only [mj_cnd, decide_eq_true_eq] at h
    refine mj_b_iconst (hE := fe_95_28) (k := ?_)
    exact mj_b_retZ (hE := fe_95_29) (hi := in_95) (Or.inl rfl) (by simp [mm_see, h, pz])
  · simp only [mj_cnd, decide_eq_false_iff_not] at h
    have hlt : at' < nh := Nat.not_le.mp fun q => h (nI_le q (by omega))
    refine mj_b_rload_n (hE := fe_95_11) (hv := rfl) (k := ?_)
    refine mj_b_getQ (hE := fe_95_12) (hM := by assumption) (hv := by assumption) (k := ?_)
    refine mj_b_rload_n (hE := fe_95_15) (hv := rfl) (k := ?_)
    refine mj_b_getV (hE := fe_95_16) (hM := by assumption) (hv := by assumption) (k := ?_)
    refine mj_b_caldN (hE := fe_95_19) (hM := by assumption) (hj := rfl) (hc := by omega) (hn := by decide) (hv := rfl) (k := ?_)
    refine mj_b_iload_n (hE := fe_95_20) (hv := rfl) (k := ?_)
    refine mj_b_if2 (hE := fe_95_21) (kt := fun h21 => ?_) (kf := fun h21 => ?_)
    · simp only [mj_cnd, decide_eq_true_eq, decide_eq_false_iff_not, Bool.not_eq_true', Bool.not_eq_false', pz_0, Bool.not_eq_false, Bool.not_eq_true] at h21
      refine mj_b_iconst (hE := fe_95_28) (k := ?_)
      exact mj_b_retZ (hE := fe_95_29) (hi := in_95) (by first | decide | exact pz_01 _) (by first | (simp [mm_see, h, pz, h21]; done) | (simp_all [mm_see, h, pz]; done) | rfl)
    · simp only [mj_cnd, decide_eq_true_eq, decide_eq_false_iff_not, Bool.not_eq_true', Bool.not_eq_false', pz_0, Bool.not_eq_false, Bool.not_eq_true] at h21
      refine mj_b_iconst (hE := fe_95_24) (k := ?_)
      refine mj_b_goto (hE := fe_95_25) (k := ?_)
      exact mj_b_retZ (hE := fe_95_29) (hi := in_95) (by first | decide | exact pz_01 _) (by first | (simp [mm_see, h, pz, h21]; done) | (simp_all [mm_see, h, pz]; done) | rfl)
end MU
