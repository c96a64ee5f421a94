/-! ===== the model: rows and locks are passed, taken, made ===== -/
section MB
variable {P : mj_P} {f pc nx x y : Nat} {L st : List Value} {M : mj_H} {Q : Option Value × mj_H → Prop} {z : Int32} {tb : List (Int × Nat)}
theorem mj_b_iastN {i v : Int32} {a n c : Nat} (hE : P.1 f pc = some (.iastore, nx, x, y, 0, z, tb)) (hM : M.1[a]? = some (65, n)) (hj : i = nI c) (hc : c < n) (hn : n < 2 ^ 31) (k : mj_T P f nx L st (M.1, mj_u M.2.1 a c v, M.2.2) Q) : mj_T P f pc L (.int v :: .int i :: .ref a :: st) M Q := by
  subst hj
  refine mj_b_iast hE (by decide) (by decide) hM (mj_ix_nI hc hn) ?_
  rw [nI_clamp (by omega)]
  exact k
theorem mj_b_bastN {i v : Int32} {b : Bool} {a n c : Nat} (hE : P.1 f pc = some (.bastore, nx, x, y, 0, z, tb)) (hM : M.1[a]? = some (66, n)) (hj : i = nI c) (hc : c < n) (hn : n < 2 ^ 31) (hv : v = pz b) (k : mj_T P f nx L st (M.1, mj_u M.2.1 a c (pz b), M.2.2) Q) : mj_T P f pc L (.int v :: .int i :: .ref a :: st) M Q := by
  subst hj; subst hv
  refine mj_b_bast hE (by decide) (by decide) hM (mj_ix_nI hc hn) ?_
  rw [nI_clamp (by omega), show pz b &&& 1 = pz b from by cases b <;> rfl]
  exact k
end MB
theorem m3_mul (k i : Nat) : (3 : Int32) * nI k + nI i = nI (3 * k + i) := by rw [show (3 : Int32) = nI 3 from rfl, mi_mul, nI_add]
section MO
variable {L s : Nat} {T : ty_st} {ts : List Int32} {I I' : Nat → Nat → Int32} {R : Nat → Nat → Option Nat}
set_option maxHeartbeats 2000000 in
/-- LockedTreeModel.pass -/
theorem g102 {a b : Nat} {r : ty_rw} (hm : mm_ok R) (ha : a < 40) (hb : b < 40) (hab : a ≠ b) (hr : mr_at I a r) :
    mj_G pj_P 102 [.ref 87, .int (nI a), .int (nI b)] (mz_SH L, I, R) (fun q => ∃ I', q = (none, (mz_SH L, I', R)) ∧ mr_at I' b r ∧ fr_K b I I') := by
  obtain ⟨q0, q1, q2, q3, q4, q5, q6, q7, q8, q9, q10, q11, q16, q21⟩ := hm
  have h87 := sm_87 L
  have h88 := sm_88 L
  have h89 := sm_89 L
  have h90 := sm_90 L
  have h91 := sm_91 L
  have h92 := sm_92 L
  obtain ⟨r0, r1, r2, r3, r4, r5, r6⟩ := hr
  refine mj_enter in_102 (L := [.ref 87, .int (nI a), .int (nI b), .retAddr 0]) rfl ?_
  refine mj_b_rload_n (hE := fe_102_0) (hv := rfl) (k := ?_)
  refine mj_b_getQ (hE := fe_102_1) (hM := by assumption) (hv := by assumption) (k := ?_)
  refine mj_b_iload_n (hE := fe_102_4) (hv := rfl) (k := ?_)
  refine mj_b_rload_n (hE := fe_102_5) (hv := rfl) (k := ?_)
  refine mj_b_getQ (hE := fe_102_6) (hM := by assumption) (hv := by assumption) (k := ?_)
  refine mj_b_iload_n (hE := fe_102_9) (hv := rfl) (k := ?_)
  refine mj_b_ialdN (hE := fe_102_10) (hM := h88) (ht := Or.inr rfl) (hj := rfl) (hc := ha) (hn := by decide) (hv := r0) (k := ?_)
  refine mj_b_iastN (hE := fe_102_11) (hM := h88) (hj := rfl) (hc := hb) (hn := by decide) (k := ?_)
  refine mj_b_rload_n (hE := fe_102_12) (hv := rfl) (k := ?_)
  refine mj_b_getQ (hE := fe_102_13) (hM := by assumption) (hv := by assumption) (k := ?_)
  refine mj_b_iload_n (hE := fe_102_16) (hv := rfl) (k := ?_)
  refine mj_b_rload_n (hE := fe_102_17) (hv := rfl) (k := ?_)
  refine mj_b_getQ (hE := fe_102_18) (hM := by assumption) (hv := by assumption) (k := ?_)
  refine mj_b_iload_n (hE := fe_102_21) (hv := rfl) (k := ?_)
  refine mj_b_baldN (hE := fe_102_22) (v := pz (decide (r.2.1 = 2))) (hM := h89) (hj := rfl) (hc := ha) (hn := by decide) (hv := by simp [mj_u, r1]) (k := ?_)
  refine mj_b_bastN (hE := fe_102_23) (hM := h89) (hj := rfl) (hc := hb) (hn := by decide) (hv := rfl) (k := ?_)
  refine mj_b_rload_n (hE := fe_102_24) (hv := rfl) (k := ?_)
  refine mj_b_getQ (hE := fe_102_25) (hM := by assumption) (hv := by assumption) (k := ?_)
  refine mj_b_iload_n (hE := fe_102_28) (hv := rfl) (k := ?_)
  refine mj_b_rload_n (hE := fe_102_29) (hv := rfl) (k := ?_)
  refine mj_b_getQ (hE := fe_102_30) (hM := by assumption) (hv := by assumption) (k := ?_)
  refine mj_b_iload_n (hE := fe_102_33) (hv := rfl) (k := ?_)
  refine mj_b_ialdN (hE := fe_102_34) (v := r.2.2.1) (hM := h90) (ht := Or.inr rfl) (hj := rfl) (hc := ha) (hn := by decide) (hv := by simp [mj_u, r2]) (k := ?_)
  refine mj_b_iastN (hE := fe_102_35) (hM := h90) (hj := rfl) (hc := hb) (hn := by decide) (k := ?_)
  refine mj_b_rload_n (hE := fe_102_36) (hv := rfl) (k := ?_)
  refine mj_b_getQ (hE := fe_102_37) (hM := by assumption) (hv := by assumption) (k := ?_)
  refine mj_b_iload_n (hE := fe_102_40) (hv := rfl) (k := ?_)
  refine mj_b_rload_n (hE := fe_102_41) (hv := rfl) (k := ?_)
  refine mj_b_getQ (hE := fe_102_42) (hM := by assumption) (hv := by assumption) (k := ?_)
  refine mj_b_iload_n (hE := fe_102_45) (hv := rfl) (k := ?_)
  refine mj_b_ialdN (hE := fe_102_46) (v := r.2.2.2.1) (hM := h91) (ht := Or.inr rfl) (hj := rfl) (hc := ha) (hn := by decide) (hv := by simp [mj_u, r3]) (k := ?_)
  refine mj_b_iastN (hE := fe_102_47) (hM := h91) (hj := rfl) (hc := hb) (hn := by decide) (k := ?_)
  refine mj_b_iconst (hE := fe_102_48) (k := ?_)
  refine mj_b_istore_n (hE := fe_102_49) (hx := Nat.le_of_ble_eq_true rfl) (k := ?_)
  have st : ∀ (I1 : Nat → Nat → Int32) (i : Nat) (v : Int32) (Qq : Option Value × mj_H → Prop), i < 3 → I1 92 (3 * a + i) = v → mj_T pj_P 102 50 [.ref 87, .int (nI a), .int (nI b), .int (nI (i + 1))] [] (mz_SH L, mj_u I1 92 (3 * b + i) v, R) Qq → mj_T pj_P 102 50 [.ref 87, .int (nI a), .int (nI b), .int (nI i)] [] (mz_SH L, I1, R) Qq := by
    intro I1 i v Qq hi hv hQ
    refine mj_b_iload_n (hE := fe_102_50) (hv := rfl) (k := ?_)
    refine mj_b_iconst (hE := fe_102_51) (k := ?_)
    refine mj_b_if2 (hE := fe_102_52) (kt := fun g => ?_) (kf := fun g => ?_)
    · simp only [mj_cnd, decide_eq_true_eq] at g
      exact absurd g (by rw [show (3 : Int32) = nI 3 from rfl, nI_le_iff (by omega) (by omega)]; omega)
    · refine mj_b_rload_n (hE := fe_102_55) (hv := rfl) (k := ?_)
      refine mj_b_getQ (hE := fe_102_56) (hM := by assumption) (hv := by assumption) (k := ?_)
      refine mj_b_iconst (hE := fe_102_59) (k := ?_)
      refine mj_b_iload_n (hE := fe_102_60) (hv := rfl) (k := ?_)
      refine mj_b_imul (hE := fe_102_61) (k := ?_)
      refine mj_b_iload_n (hE := fe_102_62) (hv := rfl) (k := ?_)
      refine mj_b_iadd (hE := fe_102_63) (k := ?_)
      refine mj_b_rload_n (hE := fe_102_64) (hv := rfl) (k := ?_)
      refine mj_b_getQ (hE := fe_102_65) (hM := by assumption) (hv := by assumption) (k := ?_)
      refine mj_b_iconst (hE := fe_102_68) (k := ?_)
      refine mj_b_iload_n (hE := fe_102_69) (hv := rfl) (k := ?_)
      refine mj_b_imul (hE := fe_102_70) (k := ?_)
      refine mj_b_iload_n (hE := fe_102_71) (hv := rfl) (k := ?_)
      refine mj_b_iadd (hE := fe_102_72) (k := ?_)
      refine mj_b_ialdN (hE := fe_102_73) (v := v) (hM := h92) (ht := Or.inr rfl) (hj := m3_mul a i) (hc := by omega) (hn := by decide) (hv := hv) (k := ?_)
      refine mj_b_iastN (hE := fe_102_74) (hM := h92) (hj := m3_mul b i) (hc := by omega) (hn := by decide) (k := ?_)
      refine mj_b_iinc (hE := fe_102_75) (hv := rfl) (k := ?_)
      refine mj_b_goto (hE := fe_102_78) (k := ?_)
      exact (show mj_T pj_P 102 50 [.ref 87, .int (nI a), .int (nI b), .int (nI i + 1)] [] (mz_SH L, mj_u I1 92 (3 * b + i) v, R) Qq from (nI_succ i) ▸ hQ)
  refine st _ 0 r.2.2.2.2.1 _ (by omega) (by simp [mj_u, r4]) ?_
  have x1 : ¬ 3 * a + 1 = 3 * b := by omega
  have x2 : ¬ 3 * a + 2 = 3 * b := by omega
  have x3 : ¬ 3 * a + 2 = 3 * b + 1 := by omega
  refine st _ 1 r.2.2.2.2.2.1 _ (by omega) (by simp [mj_u, x1, r5]) ?_
  refine st _ 2 r.2.2.2.2.2.2 _ (by omega) (by simp [mj_u, x2, x3, r6]) ?_
  refine mj_b_iload_n (hE := fe_102_50) (hv := rfl) (k := ?_)
  refine mj_b_iconst (hE := fe_102_51) (k := ?_)
  refine mj_b_if2 (hE := fe_102_52) (kt := fun g => ?_) (kf := fun g => ?_)
  · refine mj_b_retV (hE := fe_102_81) (hi := in_102) ⟨_, rfl, ?_, ?_⟩
    · refine ⟨?_, ?_, ?_, ?_, ?_, ?_, ?_⟩
      · simp [mj_u]
      · simp [mj_u]
      · simp [mj_u]
      · simp [mj_u]
      · simp [mj_u]
      · simp [mj_u]
      · simp [mj_u]
    · intro x j h1 h2
      have e1 : ¬ (x = 88 ∧ j = b) := by omega
      have e2 : ¬ (x = 89 ∧ j = b) := by omega
      have e3 : ¬ (x = 90 ∧ j = b) := by omega
      have e4 : ¬ (x = 91 ∧ j = b) := by omega
      have e5 : ¬ (x = 92 ∧ j = 3 * b + 0) := by omega
      have e6 : ¬ (x = 92 ∧ j = 3 * b + 1) := by omega
      have e7 : ¬ (x = 92 ∧ j = 3 * b + 2) := by omega
      simp only [mj_u, e1, e2, e3, e4, e5, e6, e7, if_false]
  · exact absurd g (by decide)
set_option maxHeartbeats 2000000 in
/-- LockedTreeModel.passLock -/
theorem g103 {a b : Nat} {l : ty_lk} (hm : mm_ok R) (ha : a < 20) (hb : b < 20) (hr : ml_at I a l) :
    mj_G pj_P 103 [.ref 87, .int (nI a), .int (nI b)] (mz_SH L, I, R) (fun q => ∃ I', q = (none, (mz_SH L, I', R)) ∧ ml_at I' b l ∧ fr_Q b I I') := by
  obtain ⟨q0, q1, q2, q3, q4, q5, q6, q7, q8, q9, q10, q11, q16, q21⟩ := hm
  have h87 := sm_87 L
  have h93 := sm_93 L
  have h94 := sm_94 L
  have h95 := sm_95 L
  have h96 := sm_96 L
  have h97 := sm_97 L
  obtain ⟨r0, r1, r2, r3, r4⟩ := hr
  refine mj_enter in_103 (L := [.ref 87, .int (nI a), .int (nI b)]) rfl ?_
  refine mj_b_rload_n (hE := fe_103_0) (hv := rfl) (k := ?_)
  refine mj_b_getQ (hE := fe_103_1) (hM := by assumption) (hv := by assumption) (k := ?_)
  refine mj_b_iload_n (hE := fe_103_4) (hv := rfl) (k := ?_)
  refine mj_b_rload_n (hE := fe_103_5) (hv := rfl) (k := ?_)
  refine mj_b_getQ (hE := fe_103_6) (hM := by assumption) (hv := by assumption) (k := ?_)
  refine mj_b_iload_n (hE := fe_103_9) (hv := rfl) (k := ?_)
  refine mj_b_ialdN (hE := fe_103_10) (hM := h93) (ht := Or.inr rfl) (hj := rfl) (hc := ha) (hn := by decide) (hv := r0) (k := ?_)
  refine mj_b_iastN (hE := fe_103_11) (hM := h93) (hj := rfl) (hc := hb) (hn := by decide) (k := ?_)
  refine mj_b_rload_n (hE := fe_103_12) (hv := rfl) (k := ?_)
  refine mj_b_getQ (hE := fe_103_13) (hM := by assumption) (hv := by assumption) (k := ?_)
  refine mj_b_iload_n (hE := fe_103_16) (hv := rfl) (k := ?_)
  refine mj_b_rload_n (hE := fe_103_17) (hv := rfl) (k := ?_)
  refine mj_b_getQ (hE := fe_103_18) (hM := by assumption) (hv := by assumption) (k := ?_)
  refine mj_b_iload_n (hE := fe_103_21) (hv := rfl) (k := ?_)
  refine mj_b_ialdN (hE := fe_103_22) (v := l.2.1) (hM := h94) (ht := Or.inr rfl) (hj := rfl) (hc := ha) (hn := by decide) (hv := by simp [mj_u, r1]) (k := ?_)
  refine mj_b_iastN (hE := fe_103_23) (hM := h94) (hj := rfl) (hc := hb) (hn := by decide) (k := ?_)
  refine mj_b_rload_n (hE := fe_103_24) (hv := rfl) (k := ?_)
  refine mj_b_getQ (hE := fe_103_25) (hM := by assumption) (hv := by assumption) (k := ?_)
  refine mj_b_iload_n (hE := fe_103_28) (hv := rfl) (k := ?_)
  refine mj_b_rload_n (hE := fe_103_29) (hv := rfl) (k := ?_)
  refine mj_b_getQ (hE := fe_103_30) (hM := by assumption) (hv := by assumption) (k := ?_)
  refine mj_b_iload_n (hE := fe_103_33) (hv := rfl) (k := ?_)
  refine mj_b_baldN (hE := fe_103_34) (v := pz l.2.2.2.1) (hM := h95) (hj := rfl) (hc := ha) (hn := by decide) (hv := by simp [mj_u, r2]) (k := ?_)
  refine mj_b_bastN (hE := fe_103_35) (hM := h95) (hj := rfl) (hc := hb) (hn := by decide) (hv := rfl) (k := ?_)
  refine mj_b_rload_n (hE := fe_103_36) (hv := rfl) (k := ?_)
  refine mj_b_getQ (hE := fe_103_37) (hM := by assumption) (hv := by assumption) (k := ?_)
  refine mj_b_iload_n (hE := fe_103_40) (hv := rfl) (k := ?_)
  refine mj_b_rload_n (hE := fe_103_41) (hv := rfl) (k := ?_)
  refine mj_b_getQ (hE := fe_103_42) (hM := by assumption) (hv := by assumption) (k := ?_)
  refine mj_b_iload_n (hE := fe_103_45) (hv := rfl) (k := ?_)
  refine mj_b_baldN (hE := fe_103_46) (v := pz l.2.2.2.2) (hM := h96) (hj := rfl) (hc := ha) (hn := by decide) (hv := by simp [mj_u, r3]) (k := ?_)
  refine mj_b_bastN (hE := fe_103_47) (hM := h96) (hj := rfl) (hc := hb) (hn := by decide) (hv := rfl) (k := ?_)
  refine mj_b_rload_n (hE := fe_103_48) (hv := rfl) (k := ?_)
  refine mj_b_getQ (hE := fe_103_49) (hM := by assumption) (hv := by assumption) (k := ?_)
  refine mj_b_iload_n (hE := fe_103_52) (hv := rfl) (k := ?_)
  refine mj_b_rload_n (hE := fe_103_53) (hv := rfl) (k := ?_)
  refine mj_b_getQ (hE := fe_103_54) (hM := by assumption) (hv := by assumption) (k := ?_)
  refine mj_b_iload_n (hE := fe_103_57) (hv := rfl) (k := ?_)
  refine mj_b_ialdN (hE := fe_103_58) (v := l.2.2.1) (hM := h97) (ht := Or.inr rfl) (hj := rfl) (hc := ha) (hn := by decide) (hv := by simp [mj_u, r4]) (k := ?_)
  refine mj_b_iastN (hE := fe_103_59) (hM := h97) (hj := rfl) (hc := hb) (hn := by decide) (k := ?_)
  refine mj_b_retV (hE := fe_103_60) (hi := in_103) ⟨_, rfl, ?_, ?_⟩
  · refine ⟨?_, ?_, ?_, ?_, ?_⟩ <;> simp [mj_u]
  · intro x j h1
    have e1 : ¬ (x = 93 ∧ j = b) := by omega
    have e2 : ¬ (x = 94 ∧ j = b) := by omega
    have e3 : ¬ (x = 95 ∧ j = b) := by omega
    have e4 : ¬ (x = 96 ∧ j = b) := by omega
    have e5 : ¬ (x = 97 ∧ j = b) := by omega
    simp only [mj_u, e1, e2, e3, e4, e5, if_false]
/-- nothing but the model's second side has changed -/
def fr_2 (I I' : Nat → Nat → Int32) : Prop := ∀ x j, ¬ ((88 ≤ x ∧ x ≤ 91) ∧ 20 ≤ j) → ¬ (x = 92 ∧ 60 ≤ j) → ¬ ((93 ≤ x ∧ x ≤ 97) ∧ 10 ≤ j) → ¬ (x = 98 ∧ 5 ≤ j) → I' x j = I x j
theorem fr_2.refl : fr_2 I I := fun _ _ _ _ _ _ => rfl
theorem fr_2.trans {J : Nat → Nat → Int32} (h : fr_2 I I') (h2 : fr_2 I' J) : fr_2 I J := fun x j a b c d => (h2 x j a b c d).trans (h x j a b c d)
theorem fr_K.two {k : Nat} (h : fr_K k I I') (hk : 20 ≤ k) : fr_2 I I' := fun x j a b c d => h x j (by omega) (by omega)
theorem fr_Q.two {k : Nat} (h : fr_Q k I I') (hk : 10 ≤ k) : fr_2 I I' := fun x j a b c d => h x j (by omega)
theorem fr_2.u {j : Nat} {v : Int32} (hj : 5 ≤ j) : fr_2 I (mj_u I 98 j v) := fun x k a b c d => by
  have : ¬ (x = 98 ∧ k = j) := by omega
  simp only [mj_u, this, if_false]
/-- the first side doesn't feel it -/
theorem md_rep.two (h : md_rep 0 T I) (hf : fr_2 I I') : md_rep 0 T I' := by
  obtain ⟨h0, ⟨a1, a2⟩, ⟨b1, b2⟩, hr, hl, c1, c2, c3⟩ := h
  refine ⟨h0, ⟨?_, a2⟩, ⟨?_, b2⟩, ?_, ?_, ?_, ?_, ?_⟩
  · rw [hf _ _ (by omega) (by omega) (by omega) (by omega)]; exact a1
  · rw [hf _ _ (by omega) (by omega) (by omega) (by omega)]; exact b1
  · intro i r hi
    have hlt := (List.getElem?_eq_some_iff.mp hi).1
    obtain ⟨k0, k1, k2, k3, k4, k5, k6⟩ := hr i r hi
    refine ⟨?_, ?_, ?_, ?_, ?_, ?_, ?_⟩ <;> rw [hf _ _ (by omega) (by omega) (by omega) (by omega)] <;> assumption
  · intro i l hi
    have hlt := (List.getElem?_eq_some_iff.mp hi).1
    obtain ⟨k0, k1, k2, k3, k4⟩ := hl i l hi
    refine ⟨?_, ?_, ?_, ?_, ?_⟩ <;> rw [hf _ _ (by omega) (by omega) (by omega) (by omega)] <;> assumption
  · rw [hf _ _ (by omega) (by omega) (by omega) (by omega)]; exact c1
  · rw [hf _ _ (by omega) (by omega) (by omega) (by omega)]; exact c2
  · rw [hf _ _ (by omega) (by omega) (by omega) (by omega)]; exact c3
theorem sb_rep.two (h : sb_rep ts I) (hf : fr_2 I I') : sb_rep ts I' := by
  obtain ⟨⟨a1, a2⟩, h2⟩ := h
  refine ⟨⟨?_, a2⟩, ?_⟩
  · rw [hf _ _ (by omega) (by omega) (by omega) (by omega)]; exact a1
  · intro i t hi; rw [hf _ _ (by omega) (by omega) (by omega) (by omega)]; exact h2 i t hi
/-- a row of the second side goes: the last takes its place -/
def sw_rem {α : Type} (l : List α) (i : Nat) : List α := match l.getLast? with
  | none => l
  | some x => (l.set i x).dropLast
theorem sw_rem_app {α : Type} (A B : List α) (a : α) : ∃ B', B'.Perm B ∧ sw_rem (A ++ a :: B) A.length = A ++ B' := by
  rcases List.eq_nil_or_concat B with rfl | ⟨C, b, rfl⟩
  · refine ⟨[], List.Perm.refl _, ?_⟩
    unfold sw_rem
    simp
  · refine ⟨b :: C, ?_, ?_⟩
    · rw [List.concat_eq_append]
      exact (List.perm_append_singleton b C).symm
    · unfold sw_rem
      simp only [List.concat_eq_append]
      have e : (A ++ a :: (C ++ [b])).getLast? = some b := by
        rw [show A ++ a :: (C ++ [b]) = (A ++ a :: C) ++ [b] by simp, List.getLast?_append]
        simp
      rw [e]
      simp only
      have e2 : (A ++ a :: (C ++ [b])).set A.length b = (A ++ b :: C) ++ [b] := by simp
      rw [e2, List.dropLast_concat]
set_option maxHeartbeats 2000000 in
/-- LockedTreeModel.take -/
theorem g117 {i : Nat} (hm : mm_ok R) (h : md_rep 1 T I) (hi : i < T.1.length) :
    mj_G pj_P 117 [.ref 87, .int (nI (20 + i))] (mz_SH L, I, R) (fun q => ∃ I', q = (none, (mz_SH L, I', R)) ∧ md_rep 1 (sw_rem T.1 i, T.2) I' ∧ fr_2 I I') := by
  have hm0 := hm
  obtain ⟨q0, q1, q2, q3, q4, q5, q6, q7, q8, q9, q10, q11, q16, q21⟩ := hm
  have h87 := sm_87 L
  have h98 := sm_98 L
  obtain ⟨h0, ⟨a1, a2⟩, ⟨b1, b2⟩, hr, hl, c1, c2, c3⟩ := h
  simp only [Nat.mul_one, Nat.reduceAdd] at a1 b1 hr hl c1 c2 c3
  obtain ⟨m, hmm⟩ : ∃ m, T.1.length = m + 1 := ⟨T.1.length - 1, by omega⟩
  have e5 : nI T.1.length - 1 = nI m := by rw [hmm, nI_succ, Int32.add_sub_cancel]
  have hlast : T.1.getLast? = some T.1[m] := by
    rw [List.getLast?_eq_getElem?, show T.1.length - 1 = m by omega]
    exact List.getElem?_eq_getElem (by omega)
  have hlen : (sw_rem T.1 i).length = m := by
    unfold sw_rem
    rw [hlast]
    simp [hmm]
  have hget : ∀ j r, (sw_rem T.1 i)[j]? = some r → j < m ∧ (if j = i then T.1[m]? else T.1[j]?) = some r := by
    intro j r hj
    have hjm : j < m := by have := (List.getElem?_eq_some_iff.mp hj).1; omega
    refine ⟨hjm, ?_⟩
    unfold sw_rem at hj
    rw [hlast] at hj
    simp only at hj
    rw [List.getElem?_dropLast] at hj
    simp only [List.length_set, hmm, Nat.add_sub_cancel, hjm, if_true] at hj
    rw [List.getElem?_set] at hj
    split at hj
    · rename_i e
      subst e
      rw [if_pos rfl, ← hj]
      simp [hmm, hi, show m < m + 1 from by omega]
    · rename_i e
      rw [if_neg (fun q => e q.symm)]
      exact hj
  refine mj_enter in_117 (L := [.ref 87, .int (nI (20 + i))]) rfl ?_
  refine mj_b_rload_n (hE := fe_117_0) (hv := rfl) (k := ?_)
  refine mj_b_getQ (hE := fe_117_1) (hM := by assumption) (hv := by assumption) (k := ?_)
  refine mj_b_iconst (hE := fe_117_4) (k := ?_)
  refine mj_b_dup2 (hE := fe_117_5) (hv := rfl) (hu := rfl) (k := ?_)
  refine mj_b_ialdN (hE := fe_117_6) (c := 5) (hM := by assumption) (ht := Or.inr rfl) (hj := rfl) (hc := by decide) (hn := by decide) (hv := by first | assumption | rfl) (k := ?_)
  refine mj_b_iconst (hE := fe_117_7) (k := ?_)
  refine mj_b_isub (hE := fe_117_8) (k := ?_)
  refine mj_b_iastN (hE := fe_117_9) (c := 5) (hM := by assumption) (hj := rfl) (hc := by decide) (hn := by decide)  (k := ?_)
  refine mj_b_iload_n (hE := fe_117_10) (hv := rfl) (k := ?_)
  rw [e5]
  refine mj_b_bipush (hE := fe_117_11) (k := ?_)
  refine mj_b_rload_n (hE := fe_117_13) (hv := rfl) (k := ?_)
  refine mj_b_getQ (hE := fe_117_14) (hM := by assumption) (hv := by assumption) (k := ?_)
  refine mj_b_iconst (hE := fe_117_17) (k := ?_)
  refine mj_b_ialdN (hE := fe_117_18) (c := 5) (hM := by assumption) (ht := Or.inr rfl) (hj := rfl) (hc := by decide) (hn := by decide) (v := nI m) (hv := by simp [mj_u]) (k := ?_)
  refine mj_b_iadd (hE := fe_117_19) (k := ?_)
  have fu : fr_2 I (mj_u I 98 5 (nI m)) := fr_2.u (by omega)
  refine (show mj_T pj_P 117 20 [.ref 87, .int (nI (20 + i))] [.int (nI 20 + nI m), .int (nI (20 + i))] _ _ from ?_)
  rw [nI_add]
  refine mj_b_if2 (hE := fe_117_20) (kt := fun g => ?_) (kf := fun g => ?_)
  · simp only [mj_cnd, decide_eq_true_eq] at g
    rw [nI_le_iff (by omega) (by omega)] at g
    have him : i = m := by omega
    refine mj_b_retV (hE := fe_117_37) (hi := in_117) ⟨_, rfl, ⟨Or.inr rfl, ⟨?_, by rw [hlen]; omega⟩, ⟨?_, b2⟩, ?_, ?_, ?_, ?_, ?_⟩, fu⟩
    · rw [hlen]; simp [mj_u]
    · simp [mj_u, b1]
    · intro j r hj
      obtain ⟨hjm, hj2⟩ := hget j r hj
      rw [if_neg (by omega)] at hj2
      exact (hr j r hj2).eq (fun x k h1 h2 => mj_u_na _ _ _ _ (by omega))
    · intro j l hj
      exact (hl j l hj).eq (fun x k h1 h2 => mj_u_na _ _ _ _ (by omega))
    · simp [mj_u, c1]
    · simp [mj_u, c2]
    · simp [mj_u, c3]
  · simp only [mj_cnd, decide_eq_false_iff_not] at g
    rw [nI_le_iff (by omega) (by omega)] at g
    have hrm := hr m _ (List.getElem?_eq_getElem (show m < T.1.length by omega))
    have hrm' : mr_at (mj_u I 98 5 (nI m)) (20 + m) T.1[m] := hrm.eq (fun x k h1 h2 => mj_u_na _ _ _ _ (by omega))
    refine mj_b_rload_n (hE := fe_117_23) (hv := rfl) (k := ?_)
    refine mj_b_bipush (hE := fe_117_24) (k := ?_)
    refine mj_b_rload_n (hE := fe_117_26) (hv := rfl) (k := ?_)
    refine mj_b_getQ (hE := fe_117_27) (hM := by assumption) (hv := by assumption) (k := ?_)
    refine mj_b_iconst (hE := fe_117_30) (k := ?_)
    refine mj_b_ialdN (hE := fe_117_31) (c := 5) (hM := by assumption) (ht := Or.inr rfl) (hj := rfl) (hc := by decide) (hn := by decide) (v := nI m) (hv := by simp [mj_u]) (k := ?_)
    refine mj_b_iadd (hE := fe_117_32) (k := ?_)
    refine mj_b_iload_n (hE := fe_117_33) (hv := rfl) (k := ?_)
    refine (show mj_T pj_P 117 34 [.ref 87, .int (nI (20 + i))] [.int (nI (20 + i)), .int (nI 20 + nI m), .ref 87] _ _ from ?_)
    rw [nI_add]
    refine mj_b_call (hE := fe_117_34) (hi := in_102) (h1 := g102 hm0 (by omega) (by omega) (by omega) hrm') (hc := mj_cok_v rfl rfl h87) (ha := rfl) (hr := rfl) ?_
    rintro v' M1 ⟨I2, hM, hr2, hf2⟩
    cases hM
    refine mj_b_retV (hE := fe_117_37) (hi := in_117) ⟨_, rfl, ⟨Or.inr rfl, ⟨?_, by rw [hlen]; omega⟩, ⟨?_, b2⟩, ?_, ?_, ?_, ?_, ?_⟩, fu.trans (hf2.two (by omega))⟩
    · rw [hlen, hf2 _ _ (by omega) (by omega)]; simp [mj_u]
    · rw [hf2 _ _ (by omega) (by omega)]; simp [mj_u, b1]
    · intro j r hj
      obtain ⟨hjm, hj2⟩ := hget j r hj
      simp only [Nat.mul_one]
      split at hj2
      · rename_i e
        subst e
        rw [List.getElem?_eq_getElem (show m < T.1.length by omega), Option.some.injEq] at hj2
        rw [← hj2]
        exact hr2
      · rename_i e
        exact ((hr j r hj2).eq (fun x k h1 h2 => mj_u_na _ _ _ _ (by omega))).fr hf2 (by omega)
    · intro j l hj
      simp only [Nat.mul_one]
      exact (hl j l hj).eq (fun x k h1 h2 => by rw [hf2 _ _ (by omega) (by omega)]; exact mj_u_na _ _ _ _ (by omega))
    · rw [hf2 _ _ (by omega) (by omega)]; simp [mj_u, c1]
    · rw [hf2 _ _ (by omega) (by omega)]; simp [mj_u, c2]
    · rw [hf2 _ _ (by omega) (by omega)]; simp [mj_u, c3]
end MO
