/-! ===== the model: the differences; a tree goes ===== -/
theorem pz_cnt (b : Bool) (c : Int32) (m : Nat) : c + pz b + nI m = c + nI (m + (if b = true then 1 else 0)) := by
  cases b
  · simp [pz]
  · simp only [if_true, pz]
    rw [nI_succ, Int32.add_assoc, Int32.add_comm 1]
section MF
variable {L : Nat} {T U : ty_st} {ts : List Int32} {I I' : Nat → Nat → Int32} {R : Nat → Nat → Option Nat} {Q : Option Value × mj_H → Prop}
set_option maxHeartbeats 2000000 in
theorem l110a (hm : mm_ok R) (h : md_rep 0 T I) (hu : md_rep 1 U I) (hnu : ar_nd U.1) (hkt : ∀ r ∈ T.1, r.2.1 = 1 ∨ r.2.1 = 2) (hku : ∀ r ∈ U.1, r.2.1 = 1 ∨ r.2.1 = 2) {v4 v5 : Value} {n : Int32}
    (hk : ∀ v2 v3, mj_T pj_P 110 74 [.ref 87, .int n, v2, v3, v4, v5] [] (mz_SH L, I, R) Q) :
    ∀ (k i : Nat) (c : Int32) (v3 : Value), i + k = T.1.length → c + nI ((T.1.drop i).countP (md_chr U.1)) = n → mj_T pj_P 110 24 [.ref 87, .int c, .int (nI i), v3, v4, v5] [] (mz_SH L, I, R) Q := by
  have hm0 := hm
  obtain ⟨q0, q1, q2, q3, q4, q5, q6, q7, q8, q9, q10, q11, q16, q21⟩ := hm
  have h87 := sm_87 L
  have h88 := sm_88 L
  have h98 := sm_98 L
  have hn := h.2.1.1
  rw [Nat.mul_zero] at hn
  have hn13 := h.2.1.2
  have hu13 := hu.2.1.2
  intro k
  induction k with
  | zero =>
    intro i c v3 hi hc
    have hin : i = T.1.length := by omega
    subst hin
    rw [List.drop_length] at hc
    have hc2 : c = n := by rw [← hc]; simp; rfl
    subst hc2
    refine mj_b_iload_n (hE := fe_110_24) (hv := rfl) (k := ?_)
    refine mj_b_rload_n (hE := fe_110_25) (hv := rfl) (k := ?_)
    refine mj_b_getQ (hE := fe_110_26) (hM := by assumption) (hv := by assumption) (k := ?_)
    refine mj_b_iconst (hE := fe_110_29) (k := ?_)
    refine mj_b_ialdN (hE := fe_110_30) (c := 0) (hM := by assumption) (ht := Or.inr rfl) (hj := rfl) (hc := by decide) (hn := by decide) (hv := by first | assumption | rfl) (k := ?_)
    refine mj_b_if2 (hE := fe_110_31) (kt := fun g => ?_) (kf := fun g => ?_)
    · exact hk _ _
    · simp [mj_cnd] at g
  | succ k ih =>
    intro i c v3 hi hc
    have hlt : i < T.1.length := by omega
    have hgi : T.1[i]? = some T.1[i] := List.getElem?_eq_getElem hlt
    have hri := h.2.2.2.1 i _ hgi
    rw [Nat.mul_zero, Nat.zero_add] at hri
    rw [drop_get hlt, List.countP_cons] at hc
    have h66 : ∀ (t : Bool) (v3 : Value), t = md_chr U.1 T.1[i] → mj_T pj_P 110 66 [.ref 87, .int c, .int (nI i), v3, v4, v5] [.int (pz t), .int c] (mz_SH L, I, R) Q := by
      intro t v3 ht
      refine mj_b_iadd (hE := fe_110_66) (k := ?_)
      refine mj_b_istore_n (hE := fe_110_67) (hx := Nat.le_of_ble_eq_true rfl) (k := ?_)
      refine mj_b_iinc (hE := fe_110_68) (hv := rfl) (k := ?_)
      refine mj_b_goto (hE := fe_110_71) (k := ?_)
      refine (show mj_T pj_P 110 24 [.ref 87, .int (c + pz t), .int (nI i + 1), v3, v4, v5] [] (mz_SH L, I, R) Q from ?_)
      rw [← nI_succ]
      exact ih (i + 1) _ v3 (by omega) (by rw [pz_cnt, ht]; exact hc)
    refine mj_b_iload_n (hE := fe_110_24) (hv := rfl) (k := ?_)
    refine mj_b_rload_n (hE := fe_110_25) (hv := rfl) (k := ?_)
    refine mj_b_getQ (hE := fe_110_26) (hM := by assumption) (hv := by assumption) (k := ?_)
    refine mj_b_iconst (hE := fe_110_29) (k := ?_)
    refine mj_b_ialdN (hE := fe_110_30) (c := 0) (hM := by assumption) (ht := Or.inr rfl) (hj := rfl) (hc := by decide) (hn := by decide) (hv := by first | assumption | rfl) (k := ?_)
    refine mj_b_if2 (hE := fe_110_31) (kt := fun g => ?_) (kf := fun g => ?_)
    · simp only [mj_cnd, decide_eq_true_eq] at g
      exact absurd g (nI_ge (by omega) (by omega))
    · refine mj_b_rload_n (hE := fe_110_34) (hv := rfl) (k := ?_)
      refine mj_b_rload_n (hE := fe_110_35) (hv := rfl) (k := ?_)
      refine mj_b_getQ (hE := fe_110_36) (hM := by assumption) (hv := by assumption) (k := ?_)
      refine mj_b_iload_n (hE := fe_110_39) (hv := rfl) (k := ?_)
      refine mj_b_ialdN (hE := fe_110_40) (hM := h88) (ht := Or.inr rfl) (hj := rfl) (hc := by omega) (hn := by decide) (hv := hri.1) (k := ?_)
      refine mj_b_bipush (hE := fe_110_41) (k := ?_)
      refine mj_b_callR (hE := fe_110_43) (hi := in_101) (h1 := g101' (s := 1) _ hm0 hu hnu) (hc := mj_cok_v rfl rfl h87) (ha := rfl) (hr := rfl) ?_
      cases hf : ar_fi U.1 (T.1[i]).1 with
      | none =>
        have hg := ar_fi_getN hf
        refine mj_b_istore_n (hE := fe_110_46) (hx := Nat.le_of_ble_eq_true rfl) (k := ?_)
        refine mj_b_iload_n (hE := fe_110_47) (hv := rfl) (k := ?_)
        refine mj_b_iload_n (hE := fe_110_48) (hv := rfl) (k := ?_)
        refine mj_b_if1 (hE := fe_110_49) (kt := fun m => ?_) (kf := fun m => ?_)
        · refine mj_b_iconst (hE := fe_110_61) (k := ?_)
          refine mj_b_goto (hE := fe_110_62) (k := ?_)
          exact h66 true _ (by simp [md_chr, hg])
        · exact absurd m (by decide)
      | some j =>
        obtain ⟨r, hr, -⟩ := ar_fi_some hf
        have hg := ar_fi_get hf
        rw [hr] at hg
        have hjl := (List.getElem?_eq_some_iff.mp hr).1
        have hrj := hu.2.2.2.1 j r hr
        rw [Nat.mul_one] at hrj
        refine mj_b_istore_n (hE := fe_110_46) (hx := Nat.le_of_ble_eq_true rfl) (k := ?_)
        refine mj_b_iload_n (hE := fe_110_47) (hv := rfl) (k := ?_)
        refine mj_b_iload_n (hE := fe_110_48) (hv := rfl) (k := ?_)
        refine mj_b_if1 (hE := fe_110_49) (kt := fun m => ?_) (kf := fun m => ?_)
        · exact absurd (of_decide_eq_true m) (nI_pos (n := 20 * 1 + j) (by omega))
        · refine mj_b_rload_n (hE := fe_110_52) (hv := rfl) (k := ?_)
          refine mj_b_iload_n (hE := fe_110_53) (hv := rfl) (k := ?_)
          refine mj_b_iload_n (hE := fe_110_54) (hv := rfl) (k := ?_)
          refine mj_b_callR (hE := fe_110_55) (hi := in_111) (h1 := g111 (a := i) (b := 20 + j) hm0 (by omega) (by omega) hri hrj (hkt _ (List.getElem_mem hlt)) (hku r (List.mem_of_getElem? hr))) (hc := mj_cok_v rfl rfl h87) (ha := rfl) (hr := rfl) ?_
          refine mj_b_if1 (hE := fe_110_58) (kt := fun m2 => ?_) (kf := fun m2 => ?_)
          · simp only [mj_cnd, Bool.not_eq_true', decide_eq_false_iff_not, pz_0, Bool.not_eq_false, decide_eq_true_eq] at m2
            refine mj_b_iconst (hE := fe_110_65) (k := ?_)
            exact h66 false _ (by have m3 := Decidable.not_not.mp m2; simp [md_chr, ← hg, m3])
          · simp only [mj_cnd, Bool.not_eq_false', decide_eq_true_eq, pz_0, decide_eq_false_iff_not] at m2
            refine mj_b_iconst (hE := fe_110_61) (k := ?_)
            refine mj_b_goto (hE := fe_110_62) (k := ?_)
            exact h66 true _ (by simp [md_chr, ← hg, m2])
set_option maxHeartbeats 2000000 in
theorem l110b (hm : mm_ok R) (h : md_rep 0 T I) (hu : md_rep 1 U I) (hnt : ar_nd T.1) {v3 v4 v5 : Value} {n : Int32}
    (hk : ∀ v2, mj_T pj_P 110 118 [.ref 87, .int n, v2, v3, v4, v5] [] (mz_SH L, I, R) Q) :
    ∀ (k i : Nat) (c : Int32), i + k = U.1.length → c + nI ((U.1.drop i).countP (a_gor T.1)) = n → mj_T pj_P 110 77 [.ref 87, .int c, .int (nI (20 + i)), v3, v4, v5] [] (mz_SH L, I, R) Q := by
  have hm0 := hm
  obtain ⟨q0, q1, q2, q3, q4, q5, q6, q7, q8, q9, q10, q11, q16, q21⟩ := hm
  have h87 := sm_87 L
  have h88 := sm_88 L
  have h98 := sm_98 L
  have hn := hu.2.1.1
  rw [Nat.mul_one] at hn
  have hn13 := hu.2.1.2
  have ht13 := h.2.1.2
  intro k
  induction k with
  | zero =>
    intro i c hi hc
    have hin : i = U.1.length := by omega
    subst hin
    rw [List.drop_length] at hc
    have hc2 : c = n := by rw [← hc]; simp; rfl
    subst hc2
    refine mj_b_iload_n (hE := fe_110_77) (hv := rfl) (k := ?_)
    refine mj_b_bipush (hE := fe_110_78) (k := ?_)
    refine mj_b_rload_n (hE := fe_110_80) (hv := rfl) (k := ?_)
    refine mj_b_getQ (hE := fe_110_81) (hM := by assumption) (hv := by assumption) (k := ?_)
    refine mj_b_iconst (hE := fe_110_84) (k := ?_)
    refine mj_b_ialdN (hE := fe_110_85) (c := 5) (hM := by assumption) (ht := Or.inr rfl) (hj := rfl) (hc := by decide) (hn := by decide) (hv := by first | assumption | rfl) (k := ?_)
    refine mj_b_iadd (hE := fe_110_86) (k := ?_)
    refine (show mj_T pj_P 110 87 _ [.int (nI 20 + nI U.1.length), .int (nI (20 + U.1.length))] _ _ from ?_)
    rw [nI_add]
    refine mj_b_if2 (hE := fe_110_87) (kt := fun g => ?_) (kf := fun g => ?_)
    · exact hk _
    · simp [mj_cnd] at g
  | succ k ih =>
    intro i c hi hc
    have hlt : i < U.1.length := by omega
    have hgi : U.1[i]? = some U.1[i] := List.getElem?_eq_getElem hlt
    have hri := hu.2.2.2.1 i _ hgi
    rw [Nat.mul_one] at hri
    rw [drop_get hlt, List.countP_cons] at hc
    have h110 : ∀ (t : Bool), t = a_gor T.1 U.1[i] → mj_T pj_P 110 110 [.ref 87, .int c, .int (nI (20 + i)), v3, v4, v5] [.int (pz t), .int c] (mz_SH L, I, R) Q := by
      intro t ht
      refine mj_b_iadd (hE := fe_110_110) (k := ?_)
      refine mj_b_istore_n (hE := fe_110_111) (hx := Nat.le_of_ble_eq_true rfl) (k := ?_)
      refine mj_b_iinc (hE := fe_110_112) (hv := rfl) (k := ?_)
      refine mj_b_goto (hE := fe_110_115) (k := ?_)
      refine (show mj_T pj_P 110 77 [.ref 87, .int (c + pz t), .int (nI (20 + i) + 1), v3, v4, v5] [] (mz_SH L, I, R) Q from ?_)
      rw [← nI_succ]
      exact ih (i + 1) _ (by omega) (by rw [pz_cnt, ht]; exact hc)
    refine mj_b_iload_n (hE := fe_110_77) (hv := rfl) (k := ?_)
    refine mj_b_bipush (hE := fe_110_78) (k := ?_)
    refine mj_b_rload_n (hE := fe_110_80) (hv := rfl) (k := ?_)
    refine mj_b_getQ (hE := fe_110_81) (hM := by assumption) (hv := by assumption) (k := ?_)
    refine mj_b_iconst (hE := fe_110_84) (k := ?_)
    refine mj_b_ialdN (hE := fe_110_85) (c := 5) (hM := by assumption) (ht := Or.inr rfl) (hj := rfl) (hc := by decide) (hn := by decide) (hv := by first | assumption | rfl) (k := ?_)
    refine mj_b_iadd (hE := fe_110_86) (k := ?_)
    refine (show mj_T pj_P 110 87 _ [.int (nI 20 + nI U.1.length), .int (nI (20 + i))] _ _ from ?_)
    rw [nI_add]
    refine mj_b_if2 (hE := fe_110_87) (kt := fun g => ?_) (kf := fun g => ?_)
    · simp only [mj_cnd, decide_eq_true_eq] at g
      exact absurd g (by rw [nI_le_iff (by omega) (by omega)]; omega)
    · refine mj_b_iload_n (hE := fe_110_90) (hv := rfl) (k := ?_)
      refine mj_b_rload_n (hE := fe_110_91) (hv := rfl) (k := ?_)
      refine mj_b_rload_n (hE := fe_110_92) (hv := rfl) (k := ?_)
      refine mj_b_getQ (hE := fe_110_93) (hM := by assumption) (hv := by assumption) (k := ?_)
      refine mj_b_iload_n (hE := fe_110_96) (hv := rfl) (k := ?_)
      refine mj_b_ialdN (hE := fe_110_97) (hM := h88) (ht := Or.inr rfl) (hj := rfl) (hc := by omega) (hn := by decide) (hv := hri.1) (k := ?_)
      refine mj_b_iconst (hE := fe_110_98) (k := ?_)
      refine mj_b_callR (hE := fe_110_99) (hi := in_101) (h1 := g101' (s := 0) _ hm0 h hnt) (hc := mj_cok_v rfl rfl h87) (ha := rfl) (hr := rfl) ?_
      cases hf : ar_fi T.1 (U.1[i]).1 with
      | none =>
        have hh := ar_fi_has T.1 (U.1[i]).1
        rw [hf] at hh
        refine mj_b_if1 (hE := fe_110_102) (kt := fun m => ?_) (kf := fun m => ?_)
        · exact absurd m (by decide)
        · refine mj_b_iconst (hE := fe_110_105) (k := ?_)
          refine mj_b_goto (hE := fe_110_106) (k := ?_)
          exact h110 true (by simp [a_gor, ← hh])
      | some j =>
        obtain ⟨r, hr, -⟩ := ar_fi_some hf
        have hh := ar_fi_has T.1 (U.1[i]).1
        rw [hf] at hh
        have hjl := (List.getElem?_eq_some_iff.mp hr).1
        refine mj_b_if1 (hE := fe_110_102) (kt := fun m => ?_) (kf := fun m => ?_)
        · refine mj_b_iconst (hE := fe_110_109) (k := ?_)
          exact h110 false (by simp [a_gor, ← hh])
        · exact absurd (nI_pos' (n := 20 * 0 + j) (by omega)) (of_decide_eq_false m)
def dk_f (o n : ty_lk) : Bool := decide (o.1 = n.1)
def da_f (o n : ty_lk) : Bool := decide (o.1 = n.1) && decide (o.2.2.1 = n.2.2.1)
set_option maxHeartbeats 2000000 in
theorem l110c (hm : mm_ok R) (h : md_rep 0 T I) (hu : md_rep 1 U I) {n : Int32} {i : Nat} (hi : i < T.2.1.length) {A K : Int32}
    (hk : ∀ v5, mj_T pj_P 110 228 [.ref 87, .int n, .int A, .int K, .int (nI i), v5] [] (mz_SH L, I, R) Q) :
    ∀ (k j : Nat) (a c : Int32), j + k = U.2.1.length → a + nI ((U.2.1.drop j).countP (da_f T.2.1[i])) = A → c + nI ((U.2.1.drop j).countP (dk_f T.2.1[i])) = K → mj_T pj_P 110 140 [.ref 87, .int n, .int a, .int c, .int (nI i), .int (nI (10 + j))] [] (mz_SH L, I, R) Q := by
  have hm0 := hm
  obtain ⟨q0, q1, q2, q3, q4, q5, q6, q7, q8, q9, q10, q11, q16, q21⟩ := hm
  have h87 := sm_87 L
  have h93 := sm_93 L
  have h97 := sm_97 L
  have h98 := sm_98 L
  have hn := hu.2.2.1.1
  simp only [Nat.mul_one, Nat.reduceAdd] at hn
  have hn6 := hu.2.2.1.2
  have ht6 := h.2.2.1.2
  have hgi : T.2.1[i]? = some T.2.1[i] := List.getElem?_eq_getElem hi
  obtain ⟨e0, -, -, -, e4⟩ := h.2.2.2.2.1 i _ hgi
  rw [Nat.mul_zero, Nat.zero_add] at e0 e4
  intro k
  induction k with
  | zero =>
    intro j a c hj ha hc
    have hin : j = U.2.1.length := by omega
    subst hin
    rw [List.drop_length] at hc ha
    have hc2 : c = K := by rw [← hc]; simp; rfl
    have ha2 : a = A := by rw [← ha]; simp; rfl
    subst hc2
    subst ha2
    refine mj_b_iload (hE := fe_110_140) (hv := rfl) (k := ?_)
    refine mj_b_bipush (hE := fe_110_142) (k := ?_)
    refine mj_b_rload_n (hE := fe_110_144) (hv := rfl) (k := ?_)
    refine mj_b_getQ (hE := fe_110_145) (hM := by assumption) (hv := by assumption) (k := ?_)
    refine mj_b_bipush (hE := fe_110_148) (k := ?_)
    refine mj_b_ialdN (hE := fe_110_150) (c := 6) (hM := by assumption) (ht := Or.inr rfl) (hj := rfl) (hc := by decide) (hn := by decide) (hv := by first | assumption | rfl) (k := ?_)
    refine mj_b_iadd (hE := fe_110_151) (k := ?_)
    refine (show mj_T pj_P 110 152 _ [.int (nI 10 + nI U.2.1.length), .int (nI (10 + U.2.1.length))] _ _ from ?_)
    rw [nI_add]
    refine mj_b_if2 (hE := fe_110_152) (kt := fun g => ?_) (kf := fun g => ?_)
    · exact hk _
    · simp [mj_cnd] at g
  | succ k ih =>
    intro j a c hj ha hc
    have hlt : j < U.2.1.length := by omega
    have hgj : U.2.1[j]? = some U.2.1[j] := List.getElem?_eq_getElem hlt
    obtain ⟨u0, -, -, -, u4⟩ := hu.2.2.2.2.1 j _ hgj
    rw [Nat.mul_one] at u0 u4
    rw [drop_get hlt, List.countP_cons] at hc ha
    have h220 : ∀ (t t2 : Bool), t = dk_f T.2.1[i] U.2.1[j] → t2 = da_f T.2.1[i] U.2.1[j] → mj_T pj_P 110 220 [.ref 87, .int n, .int a, .int (c + pz t), .int (nI i), .int (nI (10 + j))] [.int (pz t2), .int a] (mz_SH L, I, R) Q := by
      intro t t2 ht ht2
      refine mj_b_iadd (hE := fe_110_220) (k := ?_)
      refine mj_b_istore_n (hE := fe_110_221) (hx := Nat.le_of_ble_eq_true rfl) (k := ?_)
      refine mj_b_iinc (hE := fe_110_222) (hv := rfl) (k := ?_)
      refine mj_b_goto (hE := fe_110_225) (k := ?_)
      refine (show mj_T pj_P 110 140 [.ref 87, .int n, .int (a + pz t2), .int (c + pz t), .int (nI i), .int (nI (10 + j) + 1)] [] (mz_SH L, I, R) Q from ?_)
      rw [← nI_succ]
      exact ih (j + 1) _ _ (by omega) (by rw [pz_cnt, ht2]; exact ha) (by rw [pz_cnt, ht]; exact hc)
    have h178 : ∀ (t : Bool), t = dk_f T.2.1[i] U.2.1[j] → mj_T pj_P 110 178 [.ref 87, .int n, .int a, .int c, .int (nI i), .int (nI (10 + j))] [.int (pz t), .int c] (mz_SH L, I, R) Q := by
      intro t ht
      refine mj_b_iadd (hE := fe_110_178) (k := ?_)
      refine mj_b_istore_n (hE := fe_110_179) (hx := Nat.le_of_ble_eq_true rfl) (k := ?_)
      refine mj_b_iload_n (hE := fe_110_180) (hv := rfl) (k := ?_)
      refine mj_b_rload_n (hE := fe_110_181) (hv := rfl) (k := ?_)
      refine mj_b_getQ (hE := fe_110_182) (hM := by assumption) (hv := by assumption) (k := ?_)
      refine mj_b_iload (hE := fe_110_185) (hv := rfl) (k := ?_)
      refine mj_b_ialdN (hE := fe_110_187) (hM := h93) (ht := Or.inr rfl) (hj := rfl) (hc := by omega) (hn := by decide) (hv := e0) (k := ?_)
      refine mj_b_rload_n (hE := fe_110_188) (hv := rfl) (k := ?_)
      refine mj_b_getQ (hE := fe_110_189) (hM := by assumption) (hv := by assumption) (k := ?_)
      refine mj_b_iload (hE := fe_110_192) (hv := rfl) (k := ?_)
      refine mj_b_ialdN (hE := fe_110_194) (hM := h93) (ht := Or.inr rfl) (hj := rfl) (hc := by omega) (hn := by decide) (hv := u0) (k := ?_)
      refine mj_b_if2 (hE := fe_110_195) (kt := fun g => ?_) (kf := fun g => ?_)
      · simp only [mj_cnd, Bool.not_eq_true', decide_eq_false_iff_not] at g
        refine mj_b_iconst (hE := fe_110_219) (k := ?_)
        exact h220 t false ht (by simp [da_f, g])
      · simp only [mj_cnd, Bool.not_eq_false', decide_eq_true_eq] at g
        refine mj_b_rload_n (hE := fe_110_198) (hv := rfl) (k := ?_)
        refine mj_b_getQ (hE := fe_110_199) (hM := by assumption) (hv := by assumption) (k := ?_)
        refine mj_b_iload (hE := fe_110_202) (hv := rfl) (k := ?_)
        refine mj_b_ialdN (hE := fe_110_204) (hM := h97) (ht := Or.inr rfl) (hj := rfl) (hc := by omega) (hn := by decide) (hv := e4) (k := ?_)
        refine mj_b_rload_n (hE := fe_110_205) (hv := rfl) (k := ?_)
        refine mj_b_getQ (hE := fe_110_206) (hM := by assumption) (hv := by assumption) (k := ?_)
        refine mj_b_iload (hE := fe_110_209) (hv := rfl) (k := ?_)
        refine mj_b_ialdN (hE := fe_110_211) (hM := h97) (ht := Or.inr rfl) (hj := rfl) (hc := by omega) (hn := by decide) (hv := u4) (k := ?_)
        refine mj_b_if2 (hE := fe_110_212) (kt := fun g2 => ?_) (kf := fun g2 => ?_)
        · simp only [mj_cnd, Bool.not_eq_true', decide_eq_false_iff_not] at g2
          refine mj_b_iconst (hE := fe_110_219) (k := ?_)
          exact h220 t false ht (by simp [da_f, g2])
        · simp only [mj_cnd, Bool.not_eq_false', decide_eq_true_eq] at g2
          refine mj_b_iconst (hE := fe_110_215) (k := ?_)
          refine mj_b_goto (hE := fe_110_216) (k := ?_)
          exact h220 t true ht (by simp [da_f, g, g2])
    refine mj_b_iload (hE := fe_110_140) (hv := rfl) (k := ?_)
    refine mj_b_bipush (hE := fe_110_142) (k := ?_)
    refine mj_b_rload_n (hE := fe_110_144) (hv := rfl) (k := ?_)
    refine mj_b_getQ (hE := fe_110_145) (hM := by assumption) (hv := by assumption) (k := ?_)
    refine mj_b_bipush (hE := fe_110_148) (k := ?_)
    refine mj_b_ialdN (hE := fe_110_150) (c := 6) (hM := by assumption) (ht := Or.inr rfl) (hj := rfl) (hc := by decide) (hn := by decide) (hv := by first | assumption | rfl) (k := ?_)
    refine mj_b_iadd (hE := fe_110_151) (k := ?_)
    refine (show mj_T pj_P 110 152 _ [.int (nI 10 + nI U.2.1.length), .int (nI (10 + j))] _ _ from ?_)
    rw [nI_add]
    refine mj_b_if2 (hE := fe_110_152) (kt := fun g => ?_) (kf := fun g => ?_)
    · simp only [mj_cnd, decide_eq_true_eq] at g
      exact absurd g (by rw [nI_le_iff (by omega) (by omega)]; omega)
    · refine mj_b_iload_n (hE := fe_110_155) (hv := rfl) (k := ?_)
      refine mj_b_rload_n (hE := fe_110_156) (hv := rfl) (k := ?_)
      refine mj_b_getQ (hE := fe_110_157) (hM := by assumption) (hv := by assumption) (k := ?_)
      refine mj_b_iload (hE := fe_110_160) (hv := rfl) (k := ?_)
      refine mj_b_ialdN (hE := fe_110_162) (hM := h93) (ht := Or.inr rfl) (hj := rfl) (hc := by omega) (hn := by decide) (hv := e0) (k := ?_)
      refine mj_b_rload_n (hE := fe_110_163) (hv := rfl) (k := ?_)
      refine mj_b_getQ (hE := fe_110_164) (hM := by assumption) (hv := by assumption) (k := ?_)
      refine mj_b_iload (hE := fe_110_167) (hv := rfl) (k := ?_)
      refine mj_b_ialdN (hE := fe_110_169) (hM := h93) (ht := Or.inr rfl) (hj := rfl) (hc := by omega) (hn := by decide) (hv := u0) (k := ?_)
      refine mj_b_if2 (hE := fe_110_170) (kt := fun g2 => ?_) (kf := fun g2 => ?_)
      · simp only [mj_cnd, Bool.not_eq_true', decide_eq_false_iff_not] at g2
        refine mj_b_iconst (hE := fe_110_177) (k := ?_)
        exact h178 false (by simp [dk_f, g2])
      · simp only [mj_cnd, Bool.not_eq_false', decide_eq_true_eq] at g2
        refine mj_b_iconst (hE := fe_110_173) (k := ?_)
        refine mj_b_goto (hE := fe_110_174) (k := ?_)
        exact h178 true (by simp [dk_f, g2])
set_option maxHeartbeats 2000000 in
theorem l110d (hm : mm_ok R) (h : md_rep 0 T I) (hu : md_rep 1 U I) {n : Int32} {A K : Int32}
    (hk : ∀ v4 v5, mj_T pj_P 110 234 [.ref 87, .int n, .int A, .int K, v4, v5] [] (mz_SH L, I, R) Q) :
    ∀ (k i : Nat) (a c : Int32) (v5 : Value), i + k = T.2.1.length → a + nI (ds_n da_f (T.2.1.drop i) U.2.1) = A → c + nI (ds_n dk_f (T.2.1.drop i) U.2.1) = K → mj_T pj_P 110 125 [.ref 87, .int n, .int a, .int c, .int (nI i), v5] [] (mz_SH L, I, R) Q := by
  have hm0 := hm
  obtain ⟨q0, q1, q2, q3, q4, q5, q6, q7, q8, q9, q10, q11, q16, q21⟩ := hm
  have h87 := sm_87 L
  have h98 := sm_98 L
  have hn := h.2.2.1.1
  simp only [Nat.mul_zero, Nat.zero_add] at hn
  have hn6 := h.2.2.1.2
  intro k
  induction k with
  | zero =>
    intro i a c v5 hi ha hc
    have hin : i = T.2.1.length := by omega
    subst hin
    rw [List.drop_length] at hc ha
    have hc2 : c = K := by rw [← hc]; simp [ds_n]; rfl
    have ha2 : a = A := by rw [← ha]; simp [ds_n]; rfl
    subst hc2
    subst ha2
    refine mj_b_iload (hE := fe_110_125) (hv := rfl) (k := ?_)
    refine mj_b_rload_n (hE := fe_110_127) (hv := rfl) (k := ?_)
    refine mj_b_getQ (hE := fe_110_128) (hM := by assumption) (hv := by assumption) (k := ?_)
    refine mj_b_iconst (hE := fe_110_131) (k := ?_)
    refine mj_b_ialdN (hE := fe_110_132) (c := 1) (hM := by assumption) (ht := Or.inr rfl) (hj := rfl) (hc := by decide) (hn := by decide) (hv := by first | assumption | rfl) (k := ?_)
    refine mj_b_if2 (hE := fe_110_133) (kt := fun g => ?_) (kf := fun g => ?_)
    · exact hk _ _
    · simp [mj_cnd] at g
  | succ k ih =>
    intro i a c v5 hi ha hc
    have hlt : i < T.2.1.length := by omega
    rw [drop_get hlt] at hc ha
    simp only [ds_n] at hc ha
    refine mj_b_iload (hE := fe_110_125) (hv := rfl) (k := ?_)
    refine mj_b_rload_n (hE := fe_110_127) (hv := rfl) (k := ?_)
    refine mj_b_getQ (hE := fe_110_128) (hM := by assumption) (hv := by assumption) (k := ?_)
    refine mj_b_iconst (hE := fe_110_131) (k := ?_)
    refine mj_b_ialdN (hE := fe_110_132) (c := 1) (hM := by assumption) (ht := Or.inr rfl) (hj := rfl) (hc := by decide) (hn := by decide) (hv := by first | assumption | rfl) (k := ?_)
    refine mj_b_if2 (hE := fe_110_133) (kt := fun g => ?_) (kf := fun g => ?_)
    · simp only [mj_cnd, decide_eq_true_eq] at g
      exact absurd g (nI_ge (by omega) (by omega))
    · refine mj_b_bipush (hE := fe_110_136) (k := ?_)
      refine mj_b_istore (hE := fe_110_138) (hx := Nat.le_of_ble_eq_true rfl) (k := ?_)
      refine l110c (i := i) hm0 h hu hlt ?_ U.2.1.length 0 a c (by omega) rfl rfl
      intro v5
      refine mj_b_iinc (hE := fe_110_228) (hv := rfl) (k := ?_)
      refine mj_b_goto (hE := fe_110_231) (k := ?_)
      refine (show mj_T pj_P 110 125 [.ref 87, .int n, .int _, .int _, .int (nI i + 1), v5] [] (mz_SH L, I, R) Q from ?_)
      rw [← nI_succ]
      refine ih (i + 1) _ _ v5 (by omega) ?_ ?_
      · rw [List.drop_zero, Int32.add_assoc, nI_add]; exact ha
      · rw [List.drop_zero, Int32.add_assoc, nI_add]; exact hc
set_option maxHeartbeats 2000000 in
/-- LockedTreeModel.differences -/
theorem g110 (hm : mm_ok R) (h : md_rep 0 T I) (hu : md_rep 1 U I) (hnt : ar_nd T.1) (hnu : ar_nd U.1) (hkt : ∀ r ∈ T.1, r.2.1 = 1 ∨ r.2.1 = 2) (hku : ∀ r ∈ U.1, r.2.1 = 1 ∨ r.2.1 = 2) :
    mj_G pj_P 110 [.ref 87] (mz_SH L, I, R) (fun s => s = (some (.int (md_dif T U)), (mz_SH L, I, R))) := by
  have hm0 := hm
  obtain ⟨q0, q1, q2, q3, q4, q5, q6, q7, q8, q9, q10, q11, q16, q21⟩ := hm
  have h87 := sm_87 L
  have h98 := sm_98 L
  have c0 := h.2.2.2.2.2.1
  have c1 := hu.2.2.2.2.2.1
  have n1 := h.2.2.1.1
  have n6 := hu.2.2.1.1
  simp only [Nat.mul_zero, Nat.zero_add, Nat.mul_one, Nat.reduceAdd] at c0 c1 n1 n6
  have h21 : ∀ b : Int32, b = (if T.2.2.1 = U.2.2.1 then 0 else 1) → mj_T pj_P 110 21 [.ref 87, .retAddr 0, .retAddr 0, .retAddr 0, .retAddr 0, .retAddr 0] [.int b] (mz_SH L, I, R) (fun s => s = (some (.int (md_dif T U)), (mz_SH L, I, R))) := by
    intro b hb
    refine mj_b_istore_n (hE := fe_110_21) (hx := Nat.le_of_ble_eq_true rfl) (k := ?_)
    refine mj_b_iconst (hE := fe_110_22) (k := ?_)
    refine mj_b_istore_n (hE := fe_110_23) (hx := Nat.le_of_ble_eq_true rfl) (k := ?_)
    refine l110a (n := b + nI (T.1.countP (md_chr U.1))) hm0 h hu hnu hkt hku ?_ T.1.length 0 b _ (by omega) rfl
    intro v2 v3
    refine mj_b_bipush (hE := fe_110_74) (k := ?_)
    refine mj_b_istore_n (hE := fe_110_76) (hx := Nat.le_of_ble_eq_true rfl) (k := ?_)
    refine l110b (n := b + nI (T.1.countP (md_chr U.1)) + nI (U.1.countP (a_gor T.1))) hm0 h hu hnt ?_ U.1.length 0 _ (by omega) rfl
    intro v2
    refine mj_b_iconst (hE := fe_110_118) (k := ?_)
    refine mj_b_istore_n (hE := fe_110_119) (hx := Nat.le_of_ble_eq_true rfl) (k := ?_)
    refine mj_b_iconst (hE := fe_110_120) (k := ?_)
    refine mj_b_istore_n (hE := fe_110_121) (hx := Nat.le_of_ble_eq_true rfl) (k := ?_)
    refine mj_b_iconst (hE := fe_110_122) (k := ?_)
    refine mj_b_istore (hE := fe_110_123) (hx := Nat.le_of_ble_eq_true rfl) (k := ?_)
    refine l110d (A := 0 + nI (ds_n da_f T.2.1 U.2.1)) (K := 0 + nI (ds_n dk_f T.2.1 U.2.1)) hm0 h hu ?_ T.2.1.length 0 0 0 _ (by omega) rfl rfl
    intro v4 v5
    refine mj_b_iload_n (hE := fe_110_234) (hv := rfl) (k := ?_)
    refine mj_b_rload_n (hE := fe_110_235) (hv := rfl) (k := ?_)
    refine mj_b_getQ (hE := fe_110_236) (hM := by assumption) (hv := by assumption) (k := ?_)
    refine mj_b_iconst (hE := fe_110_239) (k := ?_)
    refine mj_b_ialdN (hE := fe_110_240) (c := 1) (hM := by assumption) (ht := Or.inr rfl) (hj := rfl) (hc := by decide) (hn := by decide) (hv := by first | assumption | rfl) (k := ?_)
    refine mj_b_iadd (hE := fe_110_241) (k := ?_)
    refine mj_b_iload_n (hE := fe_110_242) (hv := rfl) (k := ?_)
    refine mj_b_isub (hE := fe_110_243) (k := ?_)
    refine mj_b_rload_n (hE := fe_110_244) (hv := rfl) (k := ?_)
    refine mj_b_getQ (hE := fe_110_245) (hM := by assumption) (hv := by assumption) (k := ?_)
    refine mj_b_bipush (hE := fe_110_248) (k := ?_)
    refine mj_b_ialdN (hE := fe_110_250) (c := 6) (hM := by assumption) (ht := Or.inr rfl) (hj := rfl) (hc := by decide) (hn := by decide) (hv := by first | assumption | rfl) (k := ?_)
    refine mj_b_iadd (hE := fe_110_251) (k := ?_)
    refine mj_b_iload_n (hE := fe_110_252) (hv := rfl) (k := ?_)
    refine mj_b_isub (hE := fe_110_253) (k := ?_)
    refine mj_b_retI (hE := fe_110_254) (hi := in_110) ?_
    rw [hb, Int32.zero_add, Int32.zero_add]
    rfl
  refine mj_enter in_110 (L := [.ref 87, .retAddr 0, .retAddr 0, .retAddr 0, .retAddr 0, .retAddr 0]) rfl ?_
  refine mj_b_rload_n (hE := fe_110_0) (hv := rfl) (k := ?_)
  refine mj_b_getQ (hE := fe_110_1) (hM := by assumption) (hv := by assumption) (k := ?_)
  refine mj_b_iconst (hE := fe_110_4) (k := ?_)
  refine mj_b_ialdN (hE := fe_110_5) (c := 2) (hM := by assumption) (ht := Or.inr rfl) (hj := rfl) (hc := by decide) (hn := by decide) (v := T.2.2.1) (hv := c0) (k := ?_)
  refine mj_b_rload_n (hE := fe_110_6) (hv := rfl) (k := ?_)
  refine mj_b_getQ (hE := fe_110_7) (hM := by assumption) (hv := by assumption) (k := ?_)
  refine mj_b_bipush (hE := fe_110_10) (k := ?_)
  refine mj_b_ialdN (hE := fe_110_12) (c := 7) (hM := by assumption) (ht := Or.inr rfl) (hj := rfl) (hc := by decide) (hn := by decide) (v := U.2.2.1) (hv := c1) (k := ?_)
  refine mj_b_if2 (hE := fe_110_13) (kt := fun g => ?_) (kf := fun g => ?_)
  · simp only [mj_cnd, Bool.not_eq_true', decide_eq_false_iff_not] at g
    refine mj_b_iconst (hE := fe_110_20) (k := ?_)
    exact h21 1 (by rw [if_neg g])
  · simp only [mj_cnd, Bool.not_eq_false', decide_eq_true_eq] at g
    refine mj_b_iconst (hE := fe_110_16) (k := ?_)
    refine mj_b_goto (hE := fe_110_17) (k := ?_)
    exact h21 0 (by rw [if_pos g])
end MF
