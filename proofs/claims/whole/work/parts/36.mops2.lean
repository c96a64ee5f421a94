/-! ===== the model: a lock goes; a row is made; are two rows the same ===== -/
section MP
variable {L s : Nat} {T : ty_st} {ts : List Int32} {I I' : Nat → Nat → Int32} {R : Nat → Nat → Option Nat}
/-- the locks from i on have moved down, up to j -/
def tl_inv (T : ty_st) (I0 : Nat → Nat → Int32) (i j : Nat) (I : Nat → Nat → Int32) : Prop :=
  (∀ x k, ¬ ((93 ≤ x ∧ x ≤ 97) ∧ 10 + i ≤ k) → I x k = I0 x k) ∧ (∀ k l, i ≤ k → k < j → T.2.1[k + 1]? = some l → ml_at I (10 + k) l) ∧ ∀ k l, j ≤ k → T.2.1[k]? = some l → ml_at I (10 + k) l
set_option maxHeartbeats 2000000 in
theorem l109 {i m : Nat} {I0 : Nat → Nat → Int32} {Q : Option Value × mj_H → Prop} (hm : mm_ok R) (hmm : T.2.1.length = m + 1) (hl6 : T.2.1.length ≤ 6) (h6 : I0 98 6 = nI m)
    (hk : ∀ I Lc, tl_inv T I0 i m I → mj_T pj_P 109 41 Lc [] (mz_SH L, I, R) Q) :
    ∀ (k j : Nat) (I : Nat → Nat → Int32), j + k = m → i ≤ j → tl_inv T I0 i j I → mj_T pj_P 109 13 [.ref 87, .int (nI (10 + i)), .int (nI (10 + j))] [] (mz_SH L, I, R) Q := by
  have hm0 := hm
  obtain ⟨q0, q1, q2, q3, q4, q5, q6, q7, q8, q9, q10, q11, q16, q21⟩ := hm
  have h87 := sm_87 L
  have h98 := sm_98 L
  intro k
  induction k with
  | zero =>
    intro j I hj hij hv
    have e6 : I 98 6 = nI m := by rw [hv.1 _ _ (by omega)]; exact h6
    have hjm : j = m := by omega
    subst hjm
    refine mj_b_iload_n (hE := fe_109_13) (hv := rfl) (k := ?_)
    refine mj_b_bipush (hE := fe_109_14) (k := ?_)
    refine mj_b_rload_n (hE := fe_109_16) (hv := rfl) (k := ?_)
    refine mj_b_getQ (hE := fe_109_17) (hM := by assumption) (hv := by assumption) (k := ?_)
    refine mj_b_bipush (hE := fe_109_20) (k := ?_)
    refine mj_b_ialdN (hE := fe_109_22) (c := 6) (hM := by assumption) (ht := Or.inr rfl) (hj := rfl) (hc := by decide) (hn := by decide) (hv := by first | assumption | rfl) (k := ?_)
    refine mj_b_iadd (hE := fe_109_23) (k := ?_)
    refine (show mj_T pj_P 109 24 [.ref 87, .int (nI (10 + i)), .int (nI (10 + j))] [.int (nI 10 + nI j), .int (nI (10 + j))] _ _ from ?_)
    rw [nI_add]
    refine mj_b_if2 (hE := fe_109_24) (kt := fun g => ?_) (kf := fun g => ?_)
    · exact hk _ _ hv
    · simp [mj_cnd] at g
  | succ k ih =>
    intro j I hj hij hv
    have e6 : I 98 6 = nI m := by rw [hv.1 _ _ (by omega)]; exact h6
    have hl : T.2.1[j + 1]? = some T.2.1[j + 1] := List.getElem?_eq_getElem (by omega)
    have hlj := hv.2.2 (j + 1) _ (by omega) hl
    refine mj_b_iload_n (hE := fe_109_13) (hv := rfl) (k := ?_)
    refine mj_b_bipush (hE := fe_109_14) (k := ?_)
    refine mj_b_rload_n (hE := fe_109_16) (hv := rfl) (k := ?_)
    refine mj_b_getQ (hE := fe_109_17) (hM := by assumption) (hv := by assumption) (k := ?_)
    refine mj_b_bipush (hE := fe_109_20) (k := ?_)
    refine mj_b_ialdN (hE := fe_109_22) (c := 6) (hM := by assumption) (ht := Or.inr rfl) (hj := rfl) (hc := by decide) (hn := by decide) (hv := by first | assumption | rfl) (k := ?_)
    refine mj_b_iadd (hE := fe_109_23) (k := ?_)
    refine (show mj_T pj_P 109 24 [.ref 87, .int (nI (10 + i)), .int (nI (10 + j))] [.int (nI 10 + nI m), .int (nI (10 + j))] _ _ from ?_)
    rw [nI_add]
    refine mj_b_if2 (hE := fe_109_24) (kt := fun g => ?_) (kf := fun g => ?_)
    · simp only [mj_cnd, decide_eq_true_eq] at g
      exact absurd g (by rw [nI_le_iff (by omega) (by omega)]; omega)
    · refine mj_b_rload_n (hE := fe_109_27) (hv := rfl) (k := ?_)
      refine mj_b_iload_n (hE := fe_109_28) (hv := rfl) (k := ?_)
      refine mj_b_iconst (hE := fe_109_29) (k := ?_)
      refine mj_b_iadd (hE := fe_109_30) (k := ?_)
      refine mj_b_iload_n (hE := fe_109_31) (hv := rfl) (k := ?_)
      refine (show mj_T pj_P 109 32 [.ref 87, .int (nI (10 + i)), .int (nI (10 + j))] [.int (nI (10 + j)), .int (nI (10 + j) + 1), .ref 87] _ _ from ?_)
      rw [← nI_succ]
      refine mj_b_call (hE := fe_109_32) (hi := in_103) (h1 := g103 (a := 10 + j + 1) (b := 10 + j) hm0 (by omega) (by omega) hlj) (hc := mj_cok_v rfl rfl h87) (ha := rfl) (hr := rfl) ?_
      rintro v' M1 ⟨I2, hM, hr2, hf2⟩
      cases hM
      refine (show mj_T pj_P 109 35 [.ref 87, .int (nI (10 + i)), .int (nI (10 + j))] [] (mz_SH L, I2, R) _ from ?_)
      refine mj_b_iinc (hE := fe_109_35) (hv := rfl) (k := ?_)
      refine mj_b_goto (hE := fe_109_38) (k := ?_)
      refine (show mj_T pj_P 109 13 [.ref 87, .int (nI (10 + i)), .int (nI (10 + j) + 1)] [] (mz_SH L, I2, R) Q from ?_)
      rw [← nI_succ, show 10 + j + 1 = 10 + (j + 1) by omega]
      refine ih (j + 1) I2 (by omega) (by omega) ⟨?_, ?_, ?_⟩
      · intro x y hx
        rw [hf2 _ _ (by omega)]
        exact hv.1 x y hx
      · intro y l hy1 hy2 hy3
        by_cases hyj : y = j
        · subst hyj
          rw [hl, Option.some.injEq] at hy3
          rw [← hy3]
          exact hr2
        · exact (hv.2.1 y l hy1 (by omega) hy3).fr hf2 (by omega)
      · intro y l hy1 hy3
        exact (hv.2.2 y l (by omega) hy3).fr hf2 (by omega)
set_option maxHeartbeats 2000000 in
/-- LockedTreeModel.takeLock -/
theorem g109 {i : Nat} (hm : mm_ok R) (h : md_rep 1 T I) (hi : i < T.2.1.length) :
    mj_G pj_P 109 [.ref 87, .int (nI (10 + i))] (mz_SH L, I, R) (fun q => ∃ I', q = (none, (mz_SH L, I', R)) ∧ md_rep 1 (T.1, T.2.1.eraseIdx i, T.2.2) I' ∧ fr_2 I I') := by
  have hm0 := hm
  obtain ⟨q0, q1, q2, q3, q4, q5, q6, q7, q8, q9, q10, q11, q16, q21⟩ := hm
  have h87 := sm_87 L
  have h98 := sm_98 L
  obtain ⟨h0, ⟨a1, a2⟩, ⟨b1, b2⟩, hr, hl, c1, c2, c3⟩ := h
  simp only [Nat.mul_one, Nat.reduceAdd] at a1 b1 hr hl c1 c2 c3
  obtain ⟨m, hmm⟩ : ∃ m, T.2.1.length = m + 1 := ⟨T.2.1.length - 1, by omega⟩
  have e5 : nI T.2.1.length - 1 = nI m := by rw [hmm, nI_succ, Int32.add_sub_cancel]
  refine mj_enter in_109 (L := [.ref 87, .int (nI (10 + i)), .retAddr 0]) rfl ?_
  refine mj_b_rload_n (hE := fe_109_0) (hv := rfl) (k := ?_)
  refine mj_b_getQ (hE := fe_109_1) (hM := by assumption) (hv := by assumption) (k := ?_)
  refine mj_b_bipush (hE := fe_109_4) (k := ?_)
  refine mj_b_dup2 (hE := fe_109_6) (hv := rfl) (hu := rfl) (k := ?_)
  refine mj_b_ialdN (hE := fe_109_7) (c := 6) (hM := by assumption) (ht := Or.inr rfl) (hj := rfl) (hc := by decide) (hn := by decide) (hv := by first | assumption | rfl) (k := ?_)
  refine mj_b_iconst (hE := fe_109_8) (k := ?_)
  refine mj_b_isub (hE := fe_109_9) (k := ?_)
  refine mj_b_iastN (hE := fe_109_10) (c := 6) (hM := by assumption) (hj := rfl) (hc := by decide) (hn := by decide)  (k := ?_)
  refine mj_b_iload_n (hE := fe_109_11) (hv := rfl) (k := ?_)
  refine mj_b_istore_n (hE := fe_109_12) (hx := Nat.le_of_ble_eq_true rfl) (k := ?_)
  rw [e5]
  refine l109 (I0 := mj_u I 98 6 (nI m)) (i := i) hm0 hmm b2 (by simp [mj_u]) ?_ (m - i) i _ (by omega) (Nat.le_refl _) ⟨fun _ _ _ => rfl, fun k l h1 h2 => by omega, fun k l _ hk => (hl k l hk).eq (fun x y h1 h2 => mj_u_na _ _ _ _ (by omega))⟩
  intro I2 Lc hv
  have fu : fr_2 I (mj_u I 98 6 (nI m)) := fr_2.u (by omega)
  have f2 : fr_2 (mj_u I 98 6 (nI m)) I2 := fun x y h1 h2 h3 h4 => hv.1 x y (by omega)
  have hlen : (T.2.1.eraseIdx i).length = m := by rw [List.length_eraseIdx, if_pos hi, hmm]; rfl
  refine mj_b_retV (hE := fe_109_41) (hi := in_109) ⟨_, rfl, ⟨Or.inr rfl, ⟨?_, a2⟩, ⟨?_, by rw [hlen]; omega⟩, ?_, ?_, ?_, ?_, ?_⟩, fu.trans f2⟩
  · rw [hv.1 _ _ (by omega)]; simp [mj_u, a1]
  · rw [hv.1 _ _ (by omega), hlen]; simp [mj_u]
  · intro j r hj
    simp only [Nat.mul_one]
    exact (hr j r hj).eq (fun x k h1 h2 => by rw [hv.1 _ _ (by omega)]; exact mj_u_na _ _ _ _ (by omega))
  · intro j l hj
    simp only [Nat.mul_one]
    dsimp only at hj
    have hjm : j < m := by have := (List.getElem?_eq_some_iff.mp hj).1; omega
    rw [List.getElem?_eraseIdx] at hj
    split at hj
    · rename_i hji
      have := hl j l hj
      obtain ⟨k0, k1, k2, k3, k4⟩ := this
      refine ⟨?_, ?_, ?_, ?_, ?_⟩ <;> rw [hv.1 _ _ (by omega), mj_u_na _ _ _ _ (by omega)] <;> assumption
    · exact hv.2.1 j l (by omega) hjm hj
  · rw [hv.1 _ _ (by omega)]; simp [mj_u, c1]
  · rw [hv.1 _ _ (by omega)]; simp [mj_u, c2]
  · rw [hv.1 _ _ (by omega)]; simp [mj_u, c3]
set_option maxHeartbeats 2000000 in
/-- LockedTreeModel.make -/
theorem g107 (p : Int32) (fo : Bool) (bd : Int32) (hm : mm_ok R) (h : md_rep 1 T I) (hl13 : T.1.length < 13) :
    mj_G pj_P 107 [.ref 87, .int p, .int (pz fo), .int bd] (mz_SH L, I, R) (fun q => ∃ I', q = (none, (mz_SH L, I', R)) ∧ md_rep 1 (T.1 ++ [(p, if fo = true then 2 else 1, bd, T.2.2.2.1, 0, 0, 0)], T.2.1, T.2.2.1, T.2.2.2.1 + 1, T.2.2.2.2) I' ∧ fr_2 I I') := by
  obtain ⟨q0, q1, q2, q3, q4, q5, q6, q7, q8, q9, q10, q11, q16, q21⟩ := hm
  have h87 := sm_87 L
  have h88 := sm_88 L
  have h89 := sm_89 L
  have h90 := sm_90 L
  have h91 := sm_91 L
  have h92 := sm_92 L
  have h98 := sm_98 L
  obtain ⟨h0, ⟨a1, a2⟩, ⟨b1, b2⟩, hr, hl, c1, c2, c3⟩ := h
  simp only [Nat.mul_one, Nat.reduceAdd] at a1 b1 hr hl c1 c2 c3
  generalize hn : T.1.length = n at a1 a2 hl13
  refine mj_enter in_107 (L := [.ref 87, .int p, .int (pz fo), .int bd, .retAddr 0, .retAddr 0]) rfl ?_
  refine mj_b_bipush (hE := fe_107_0) (k := ?_)
  refine mj_b_rload_n (hE := fe_107_2) (hv := rfl) (k := ?_)
  refine mj_b_getQ (hE := fe_107_3) (hM := by assumption) (hv := by assumption) (k := ?_)
  refine mj_b_iconst (hE := fe_107_6) (k := ?_)
  refine mj_b_ialdN (hE := fe_107_7) (c := 5) (hM := by assumption) (ht := Or.inr rfl) (hj := rfl) (hc := by decide) (hn := by decide) (hv := by first | assumption | rfl) (k := ?_)
  refine mj_b_iadd (hE := fe_107_8) (k := ?_)
  refine mj_b_istore (hE := fe_107_9) (hx := Nat.le_of_ble_eq_true rfl) (k := ?_)
  refine (show mj_T pj_P 107 11 [.ref 87, .int p, .int (pz fo), .int bd, .int (nI 20 + nI n), .retAddr 0] [] _ _ from ?_)
  rw [nI_add]
  refine mj_b_rload_n (hE := fe_107_11) (hv := rfl) (k := ?_)
  refine mj_b_getQ (hE := fe_107_12) (hM := by assumption) (hv := by assumption) (k := ?_)
  refine mj_b_iconst (hE := fe_107_15) (k := ?_)
  refine mj_b_dup2 (hE := fe_107_16) (hv := rfl) (hu := rfl) (k := ?_)
  refine mj_b_ialdN (hE := fe_107_17) (c := 5) (hM := by assumption) (ht := Or.inr rfl) (hj := rfl) (hc := by decide) (hn := by decide) (v := nI n) (hv := a1) (k := ?_)
  refine mj_b_iconst (hE := fe_107_18) (k := ?_)
  refine mj_b_iadd (hE := fe_107_19) (k := ?_)
  refine mj_b_iastN (hE := fe_107_20) (c := 5) (hM := by assumption) (hj := rfl) (hc := by decide) (hn := by decide)  (k := ?_)
  refine mj_b_rload_n (hE := fe_107_21) (hv := rfl) (k := ?_)
  refine mj_b_getQ (hE := fe_107_22) (hM := by assumption) (hv := by assumption) (k := ?_)
  refine mj_b_bipush (hE := fe_107_25) (k := ?_)
  refine mj_b_dup2 (hE := fe_107_27) (hv := rfl) (hu := rfl) (k := ?_)
  refine mj_b_ialdN (hE := fe_107_28) (c := 8) (hM := by assumption) (ht := Or.inr rfl) (hj := rfl) (hc := by decide) (hn := by decide) (v := I 98 8) (hv := by simp [mj_u]) (k := ?_)
  refine mj_b_iconst (hE := fe_107_29) (k := ?_)
  refine mj_b_iadd (hE := fe_107_30) (k := ?_)
  refine mj_b_iastN (hE := fe_107_31) (c := 8) (hM := by assumption) (hj := rfl) (hc := by decide) (hn := by decide)  (k := ?_)
  rw [c2]
  refine mj_b_rload_n (hE := fe_107_32) (hv := rfl) (k := ?_)
  refine mj_b_getQ (hE := fe_107_33) (hM := by assumption) (hv := by assumption) (k := ?_)
  refine mj_b_iload (hE := fe_107_36) (hv := rfl) (k := ?_)
  refine mj_b_iload_n (hE := fe_107_38) (hv := rfl) (k := ?_)
  refine mj_b_iastN (hE := fe_107_39) (hM := h88) (hj := rfl) (hc := by omega) (hn := by decide) (k := ?_)
  refine mj_b_rload_n (hE := fe_107_40) (hv := rfl) (k := ?_)
  refine mj_b_getQ (hE := fe_107_41) (hM := by assumption) (hv := by assumption) (k := ?_)
  refine mj_b_iload (hE := fe_107_44) (hv := rfl) (k := ?_)
  refine mj_b_iload_n (hE := fe_107_46) (hv := rfl) (k := ?_)
  refine mj_b_bastN (hE := fe_107_47) (hM := h89) (hj := rfl) (hc := by omega) (hn := by decide) (hv := rfl) (k := ?_)
  refine mj_b_rload_n (hE := fe_107_48) (hv := rfl) (k := ?_)
  refine mj_b_getQ (hE := fe_107_49) (hM := by assumption) (hv := by assumption) (k := ?_)
  refine mj_b_iload (hE := fe_107_52) (hv := rfl) (k := ?_)
  refine mj_b_iload_n (hE := fe_107_54) (hv := rfl) (k := ?_)
  refine mj_b_iastN (hE := fe_107_55) (hM := h90) (hj := rfl) (hc := by omega) (hn := by decide) (k := ?_)
  refine mj_b_rload_n (hE := fe_107_56) (hv := rfl) (k := ?_)
  refine mj_b_getQ (hE := fe_107_57) (hM := by assumption) (hv := by assumption) (k := ?_)
  refine mj_b_iload (hE := fe_107_60) (hv := rfl) (k := ?_)
  refine mj_b_rload_n (hE := fe_107_62) (hv := rfl) (k := ?_)
  refine mj_b_getQ (hE := fe_107_63) (hM := by assumption) (hv := by assumption) (k := ?_)
  refine mj_b_bipush (hE := fe_107_66) (k := ?_)
  refine mj_b_ialdN (hE := fe_107_68) (c := 8) (hM := by assumption) (ht := Or.inr rfl) (hj := rfl) (hc := by decide) (hn := by decide) (v := T.2.2.2.1) (hv := by simp [mj_u]) (k := ?_)
  refine mj_b_iastN (hE := fe_107_69) (hM := h91) (hj := rfl) (hc := by omega) (hn := by decide) (k := ?_)
  refine mj_b_iconst (hE := fe_107_70) (k := ?_)
  refine mj_b_istore (hE := fe_107_71) (hx := Nat.le_of_ble_eq_true rfl) (k := ?_)
  have st : ∀ (I1 : Nat → Nat → Int32) (i : Nat) (Qq : Option Value × mj_H → Prop), i < 3 → mj_T pj_P 107 73 [.ref 87, .int p, .int (pz fo), .int bd, .int (nI (20 + n)), .int (nI (i + 1))] [] (mz_SH L, mj_u I1 92 (3 * (20 + n) + i) 0, R) Qq → mj_T pj_P 107 73 [.ref 87, .int p, .int (pz fo), .int bd, .int (nI (20 + n)), .int (nI i)] [] (mz_SH L, I1, R) Qq := by
    intro I1 i Qq hi hQ
    refine mj_b_iload (hE := fe_107_73) (hv := rfl) (k := ?_)
    refine mj_b_iconst (hE := fe_107_75) (k := ?_)
    refine mj_b_if2 (hE := fe_107_76) (kt := fun g => ?_) (kf := fun g => ?_)
    · simp only [mj_cnd, decide_eq_true_eq] at g
      exact absurd g (by rw [show (3 : Int32) = nI 3 from rfl, nI_le_iff (by omega) (by omega)]; omega)
    · refine mj_b_rload_n (hE := fe_107_79) (hv := rfl) (k := ?_)
      refine mj_b_getQ (hE := fe_107_80) (hM := by assumption) (hv := by assumption) (k := ?_)
      refine mj_b_iconst (hE := fe_107_83) (k := ?_)
      refine mj_b_iload (hE := fe_107_84) (hv := rfl) (k := ?_)
      refine mj_b_imul (hE := fe_107_86) (k := ?_)
      refine mj_b_iload (hE := fe_107_87) (hv := rfl) (k := ?_)
      refine mj_b_iadd (hE := fe_107_89) (k := ?_)
      refine mj_b_iconst (hE := fe_107_90) (k := ?_)
      refine mj_b_iastN (hE := fe_107_91) (hM := h92) (hj := m3_mul (20 + n) i) (hc := by omega) (hn := by decide) (k := ?_)
      refine mj_b_iinc (hE := fe_107_92) (hv := rfl) (k := ?_)
      refine mj_b_goto (hE := fe_107_95) (k := ?_)
      exact (show mj_T pj_P 107 73 [.ref 87, .int p, .int (pz fo), .int bd, .int (nI (20 + n)), .int (nI i + 1)] [] (mz_SH L, mj_u I1 92 (3 * (20 + n) + i) 0, R) Qq from (nI_succ i) ▸ hQ)
  refine st _ 0 _ (by omega) ?_
  refine st _ 1 _ (by omega) ?_
  refine st _ 2 _ (by omega) ?_
  refine mj_b_iload (hE := fe_107_73) (hv := rfl) (k := ?_)
  refine mj_b_iconst (hE := fe_107_75) (k := ?_)
  refine mj_b_if2 (hE := fe_107_76) (kt := fun g => ?_) (kf := fun g => ?_)
  · have hoff : ∀ x j, ¬ ((88 ≤ x ∧ x ≤ 91) ∧ j = 20 + n) → ¬ (x = 92 ∧ 3 * (20 + n) ≤ j ∧ j < 3 * (20 + n) + 3) → ¬ (x = 98 ∧ j = 5) → ¬ (x = 98 ∧ j = 8) → (mj_u (mj_u (mj_u (mj_u (mj_u (mj_u (mj_u (mj_u (mj_u I 98 5 (nI n + 1)) 98 8 T.2.2.2.1) 88 (20 + n) p) 89 (20 + n) (pz fo)) 90 (20 + n) bd) 91 (20 + n) T.2.2.2.1) 92 (3 * (20 + n) + 0) 0) 92 (3 * (20 + n) + 1) 0) 92 (3 * (20 + n) + 2) 0) x j = I x j := by
      intro x j h1 h2 h3 h4
      have e1 : ¬ (x = 88 ∧ j = 20 + n) := by omega
      have e2 : ¬ (x = 89 ∧ j = 20 + n) := by omega
      have e3 : ¬ (x = 90 ∧ j = 20 + n) := by omega
      have e4 : ¬ (x = 91 ∧ j = 20 + n) := by omega
      have e5 : ¬ (x = 92 ∧ j = 3 * (20 + n) + 0) := by omega
      have e6 : ¬ (x = 92 ∧ j = 3 * (20 + n) + 1) := by omega
      have e7 : ¬ (x = 92 ∧ j = 3 * (20 + n) + 2) := by omega
      simp only [mj_u, e1, e2, e3, e4, e5, e6, e7, h3, h4, if_false]
    refine mj_b_retV (hE := fe_107_98) (hi := in_107) ⟨_, rfl, ⟨Or.inr rfl, ⟨?_, ?_⟩, ⟨?_, b2⟩, ?_, ?_, ?_, ?_, ?_⟩, ?_⟩
    · simp [mj_u, hn, nI_succ]
    · simp [hn]; omega
    · rw [hoff _ _ (by omega) (by omega) (by omega) (by omega)]; exact b1
    · intro j r hj
      simp only [Nat.mul_one]
      dsimp only at hj
      rw [List.getElem?_append] at hj
      split at hj
      · rename_i hlt
        obtain ⟨k0, k1, k2, k3, k4, k5, k6⟩ := hr j r hj
        refine ⟨?_, ?_, ?_, ?_, ?_, ?_, ?_⟩ <;> rw [hoff _ _ (by omega) (by omega) (by omega) (by omega)] <;> assumption
      · have hl2 := (List.getElem?_eq_some_iff.mp hj).1
        simp only [List.length_cons, List.length_nil] at hl2
        have e : j = n := by omega
        subst e
        simp only [hn, Nat.sub_self, List.getElem?_cons_zero, Option.some.injEq] at hj
        rw [← hj]
        refine ⟨by simp [mj_u], ?_, by simp [mj_u], by simp [mj_u], by simp [mj_u], by simp [mj_u], by simp [mj_u]⟩
        have : decide ((if fo = true then (2 : Int32) else 1) = 2) = fo := by cases fo <;> decide
        simp only [this]
        simp [mj_u]
    · intro j l hj
      simp only [Nat.mul_one]
      exact (hl j l hj).eq (fun x k h1 h2 => hoff _ _ (by omega) (by omega) (by omega) (by omega))
    · rw [hoff _ _ (by omega) (by omega) (by omega) (by omega)]; exact c1
    · simp [mj_u]
    · rw [hoff _ _ (by omega) (by omega) (by omega) (by omega)]; exact c3
    · intro x j h1 h2 h3 h4
      exact hoff _ _ (by omega) (by omega) (by omega) (by omega)
  · exact absurd g (by decide)
/-- are the rows at a and b the same, but for their paths -/
theorem l111 {a b : Nat} {r q : ty_rw} (hm : mm_ok R) (ha : a < 40) (hb : b < 40) (hr : mr_at I a r) (hq : mr_at I b q) {c : Int32} {i : Nat} (hi : i < 3) (v w : Int32) (hv : I 92 (3 * a + i) = v) (hw : I 92 (3 * b + i) = w) (al : Bool) (Qq : Option Value × mj_H → Prop)
    (hk : mj_T pj_P 111 54 [.ref 87, .int (nI a), .int (nI b), .int (pz (al && decide (v = w))), .int (nI (i + 1))] [] (mz_SH L, I, R) Qq) :
    mj_T pj_P 111 54 [.ref 87, .int (nI a), .int (nI b), .int (pz al), .int (nI i)] [] (mz_SH L, I, R) Qq := by
  obtain ⟨q0, q1, q2, q3, q4, q5, q6, q7, q8, q9, q10, q11, q16, q21⟩ := hm
  have h87 := sm_87 L
  have h92 := sm_92 L
  have h94 : ∀ (t : Bool) (u : Value), t = (al && decide (v = w)) → mj_T pj_P 111 94 [.ref 87, .int (nI a), .int (nI b), u, .int (nI i)] [.int (pz t)] (mz_SH L, I, R) Qq := by
    intro t u ht
    refine mj_b_istore_n (hE := fe_111_94) (hx := Nat.le_of_ble_eq_true rfl) (k := ?_)
    refine mj_b_iinc (hE := fe_111_95) (hv := rfl) (k := ?_)
    refine mj_b_goto (hE := fe_111_98) (k := ?_)
    refine (show mj_T pj_P 111 54 [.ref 87, .int (nI a), .int (nI b), .int (pz t), .int (nI i + 1)] [] (mz_SH L, I, R) Qq from ?_)
    rw [← nI_succ, ht]
    exact hk
  refine mj_b_iload (hE := fe_111_54) (hv := rfl) (k := ?_)
  refine mj_b_iconst (hE := fe_111_56) (k := ?_)
  refine mj_b_if2 (hE := fe_111_57) (kt := fun g => ?_) (kf := fun g => ?_)
  · simp only [mj_cnd, decide_eq_true_eq] at g
    exact absurd g (by rw [show (3 : Int32) = nI 3 from rfl, nI_le_iff (by omega) (by omega)]; omega)
  · refine mj_b_iload_n (hE := fe_111_60) (hv := rfl) (k := ?_)
    refine mj_b_if1 (hE := fe_111_61) (kt := fun g2 => ?_) (kf := fun g2 => ?_)
    · simp only [mj_cnd, decide_eq_true_eq, pz_0] at g2
      refine mj_b_iconst (hE := fe_111_93) (k := ?_)
      exact h94 false _ (by simp [g2])
    · simp only [mj_cnd, decide_eq_false_iff_not, pz_0, Bool.not_eq_false] at g2
      refine mj_b_rload_n (hE := fe_111_64) (hv := rfl) (k := ?_)
      refine mj_b_getQ (hE := fe_111_65) (hM := by assumption) (hv := by assumption) (k := ?_)
      refine mj_b_iconst (hE := fe_111_68) (k := ?_)
      refine mj_b_iload_n (hE := fe_111_69) (hv := rfl) (k := ?_)
      refine mj_b_imul (hE := fe_111_70) (k := ?_)
      refine mj_b_iload (hE := fe_111_71) (hv := rfl) (k := ?_)
      refine mj_b_iadd (hE := fe_111_73) (k := ?_)
      refine mj_b_ialdN (hE := fe_111_74) (v := v) (hM := h92) (ht := Or.inr rfl) (hj := m3_mul a i) (hc := by omega) (hn := by decide) (hv := hv) (k := ?_)
      refine mj_b_rload_n (hE := fe_111_75) (hv := rfl) (k := ?_)
      refine mj_b_getQ (hE := fe_111_76) (hM := by assumption) (hv := by assumption) (k := ?_)
      refine mj_b_iconst (hE := fe_111_79) (k := ?_)
      refine mj_b_iload_n (hE := fe_111_80) (hv := rfl) (k := ?_)
      refine mj_b_imul (hE := fe_111_81) (k := ?_)
      refine mj_b_iload (hE := fe_111_82) (hv := rfl) (k := ?_)
      refine mj_b_iadd (hE := fe_111_84) (k := ?_)
      refine mj_b_ialdN (hE := fe_111_85) (v := w) (hM := h92) (ht := Or.inr rfl) (hj := m3_mul b i) (hc := by omega) (hn := by decide) (hv := hw) (k := ?_)
      refine mj_b_if2 (hE := fe_111_86) (kt := fun g3 => ?_) (kf := fun g3 => ?_)
      · simp only [mj_cnd, Bool.not_eq_true', decide_eq_false_iff_not] at g3
        refine mj_b_iconst (hE := fe_111_93) (k := ?_)
        exact h94 false _ (by simp [g3])
      · simp only [mj_cnd, Bool.not_eq_false', decide_eq_true_eq] at g3
        refine mj_b_iconst (hE := fe_111_89) (k := ?_)
        refine mj_b_goto (hE := fe_111_90) (k := ?_)
        exact h94 true _ (by simp [g2, g3])
set_option maxHeartbeats 2000000 in
/-- LockedTreeModel.same -/
theorem g111 {a b : Nat} {r q : ty_rw} (hm : mm_ok R) (ha : a < 40) (hb : b < 40) (hr : mr_at I a r) (hq : mr_at I b q) (hkr : r.2.1 = 1 ∨ r.2.1 = 2) (hkq : q.2.1 = 1 ∨ q.2.1 = 2) :
    mj_G pj_P 111 [.ref 87, .int (nI a), .int (nI b)] (mz_SH L, I, R) (fun s => s = (some (.int (pz (decide (r.2 = q.2)))), (mz_SH L, I, R))) := by
  have hm0 := hm
  have hr0 := hr
  have hq0 := hq
  obtain ⟨q0, q1, q2, q3, q4, q5, q6, q7, q8, q9, q10, q11, q16, q21⟩ := hm
  have h87 := sm_87 L
  have h89 := sm_89 L
  have h90 := sm_90 L
  have h91 := sm_91 L
  obtain ⟨-, r1, r2, r3, r4, r5, r6⟩ := hr
  obtain ⟨-, s1, s2, s3, s4, s5, s6⟩ := hq
  have hfo : (pz (decide (r.2.1 = 2)) = pz (decide (q.2.1 = 2))) = (r.2.1 = q.2.1) := by
    rcases hkr with e | e <;> rcases hkq with e2 | e2 <;> rw [e, e2] <;> decide
  have fin : ∀ al : Bool, al = (decide (r.2.1 = q.2.1) && (decide (r.2.2.1 = q.2.2.1) && decide (r.2.2.2.1 = q.2.2.2.1))) → mj_T pj_P 111 50 [.ref 87, .int (nI a), .int (nI b), .retAddr 0, .retAddr 0] [.int (pz al)] (mz_SH L, I, R) (fun s => s = (some (.int (pz (decide (r.2 = q.2)))), (mz_SH L, I, R))) := by
    intro al hal
    refine mj_b_istore_n (hE := fe_111_50) (hx := Nat.le_of_ble_eq_true rfl) (k := ?_)
    refine mj_b_iconst (hE := fe_111_51) (k := ?_)
    refine mj_b_istore (hE := fe_111_52) (hx := Nat.le_of_ble_eq_true rfl) (k := ?_)
    refine l111 (c := 0) (i := 0) hm0 ha hb hr0 hq0 (by omega) _ _ r4 s4 al _ ?_
    refine l111 (c := 0) (i := 1) hm0 ha hb hr0 hq0 (by omega) _ _ r5 s5 _ _ ?_
    refine l111 (c := 0) (i := 2) hm0 ha hb hr0 hq0 (by omega) _ _ r6 s6 _ _ ?_
    refine mj_b_iload (hE := fe_111_54) (hv := rfl) (k := ?_)
    refine mj_b_iconst (hE := fe_111_56) (k := ?_)
    refine mj_b_if2 (hE := fe_111_57) (kt := fun g => ?_) (kf := fun g => ?_)
    · refine mj_b_iload_n (hE := fe_111_101) (hv := rfl) (k := ?_)
      refine mj_b_retZ (hE := fe_111_102) (hi := in_111) (pz_01 _) ?_
      rw [hal]
      congr 4
      obtain ⟨x0, x1, x2, x3, x4, x5, x6⟩ := r
      obtain ⟨y0, y1, y2, y3, y4, y5, y6⟩ := q
      simp only [Prod.mk.injEq, Bool.decide_and, Bool.and_assoc]
    · exact absurd g (by decide)
  refine mj_enter in_111 (L := [.ref 87, .int (nI a), .int (nI b), .retAddr 0, .retAddr 0]) rfl ?_
  refine mj_b_rload_n (hE := fe_111_0) (hv := rfl) (k := ?_)
  refine mj_b_getQ (hE := fe_111_1) (hM := by assumption) (hv := by assumption) (k := ?_)
  refine mj_b_iload_n (hE := fe_111_4) (hv := rfl) (k := ?_)
  refine mj_b_baldN (hE := fe_111_5) (v := pz (decide (r.2.1 = 2))) (hM := h89) (hj := rfl) (hc := ha) (hn := by decide) (hv := r1) (k := ?_)
  refine mj_b_rload_n (hE := fe_111_6) (hv := rfl) (k := ?_)
  refine mj_b_getQ (hE := fe_111_7) (hM := by assumption) (hv := by assumption) (k := ?_)
  refine mj_b_iload_n (hE := fe_111_10) (hv := rfl) (k := ?_)
  refine mj_b_baldN (hE := fe_111_11) (v := pz (decide (q.2.1 = 2))) (hM := h89) (hj := rfl) (hc := hb) (hn := by decide) (hv := s1) (k := ?_)
  refine mj_b_if2 (hE := fe_111_12) (kt := fun g => ?_) (kf := fun g => ?_)
  · simp only [mj_cnd, Bool.not_eq_true', decide_eq_false_iff_not, hfo] at g
    refine mj_b_iconst (hE := fe_111_49) (k := ?_)
    exact fin false (by simp [g])
  · simp only [mj_cnd, Bool.not_eq_false', decide_eq_true_eq, hfo] at g
    refine mj_b_rload_n (hE := fe_111_15) (hv := rfl) (k := ?_)
    refine mj_b_getQ (hE := fe_111_16) (hM := by assumption) (hv := by assumption) (k := ?_)
    refine mj_b_iload_n (hE := fe_111_19) (hv := rfl) (k := ?_)
    refine mj_b_ialdN (hE := fe_111_20) (v := r.2.2.1) (hM := h90) (ht := Or.inr rfl) (hj := rfl) (hc := ha) (hn := by decide) (hv := r2) (k := ?_)
    refine mj_b_rload_n (hE := fe_111_21) (hv := rfl) (k := ?_)
    refine mj_b_getQ (hE := fe_111_22) (hM := by assumption) (hv := by assumption) (k := ?_)
    refine mj_b_iload_n (hE := fe_111_25) (hv := rfl) (k := ?_)
    refine mj_b_ialdN (hE := fe_111_26) (v := q.2.2.1) (hM := h90) (ht := Or.inr rfl) (hj := rfl) (hc := hb) (hn := by decide) (hv := s2) (k := ?_)
    refine mj_b_if2 (hE := fe_111_27) (kt := fun g2 => ?_) (kf := fun g2 => ?_)
    · simp only [mj_cnd, Bool.not_eq_true', decide_eq_false_iff_not] at g2
      refine mj_b_iconst (hE := fe_111_49) (k := ?_)
      exact fin false (by simp [g2])
    · simp only [mj_cnd, Bool.not_eq_false', decide_eq_true_eq] at g2
      refine mj_b_rload_n (hE := fe_111_30) (hv := rfl) (k := ?_)
      refine mj_b_getQ (hE := fe_111_31) (hM := by assumption) (hv := by assumption) (k := ?_)
      refine mj_b_iload_n (hE := fe_111_34) (hv := rfl) (k := ?_)
      refine mj_b_ialdN (hE := fe_111_35) (v := r.2.2.2.1) (hM := h91) (ht := Or.inr rfl) (hj := rfl) (hc := ha) (hn := by decide) (hv := r3) (k := ?_)
      refine mj_b_rload_n (hE := fe_111_36) (hv := rfl) (k := ?_)
      refine mj_b_getQ (hE := fe_111_37) (hM := by assumption) (hv := by assumption) (k := ?_)
      refine mj_b_iload_n (hE := fe_111_40) (hv := rfl) (k := ?_)
      refine mj_b_ialdN (hE := fe_111_41) (v := q.2.2.2.1) (hM := h91) (ht := Or.inr rfl) (hj := rfl) (hc := hb) (hn := by decide) (hv := s3) (k := ?_)
      refine mj_b_if2 (hE := fe_111_42) (kt := fun g3 => ?_) (kf := fun g3 => ?_)
      · simp only [mj_cnd, Bool.not_eq_true', decide_eq_false_iff_not] at g3
        refine mj_b_iconst (hE := fe_111_49) (k := ?_)
        exact fin false (by simp [g3])
      · simp only [mj_cnd, Bool.not_eq_false', decide_eq_true_eq] at g3
        refine mj_b_iconst (hE := fe_111_45) (k := ?_)
        refine mj_b_goto (hE := fe_111_46) (k := ?_)
        exact fin true (by simp [g, g2, g3])
end MP
