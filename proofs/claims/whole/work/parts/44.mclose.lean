/-! ===== the model: close; a tree is emptied ===== -/
/-- nothing but the model's first side has changed -/
def fr_1 (I I' : Nat → Nat → Int32) : Prop := ∀ x j, ¬ ((88 ≤ x ∧ x ≤ 91) ∧ j < 20) → ¬ (x = 92 ∧ j < 60) → ¬ ((93 ≤ x ∧ x ≤ 97) ∧ j < 10) → ¬ (x = 98 ∧ j < 5) → I' x j = I x j
theorem fr_1.refl {I : Nat → Nat → Int32} : fr_1 I I := fun _ _ _ _ _ _ => rfl
theorem fr_1.trans {I I' J : Nat → Nat → Int32} (h : fr_1 I I') (h2 : fr_1 I' J) : fr_1 I J := fun x j a b c d => (h2 x j a b c d).trans (h x j a b c d)
theorem fr_K.one {k : Nat} {I I' : Nat → Nat → Int32} (h : fr_K k I I') (hk : k < 20) : fr_1 I I' := fun x j a b c d => h x j (by omega) (by omega)
theorem fr_Q.one {k : Nat} {I I' : Nat → Nat → Int32} (h : fr_Q k I I') (hk : k < 10) : fr_1 I I' := fun x j a b c d => h x j (by omega)
theorem fr_1.u {I : Nat → Nat → Int32} {j : Nat} {v : Int32} (hj : j < 5) : fr_1 I (mj_u I 98 j v) := fun x k a b c d => by
  have : ¬ (x = 98 ∧ k = j) := by omega
  simp only [mj_u, this, if_false]
theorem fr_1.M {I I' : Nat → Nat → Int32} (h : fr_1 I I') : fr_M I I' := fun x j q => h x j (by omega) (by omega) (by omega) (by omega)
section MZ
variable {L : Nat} {T U V : ty_st} {ts hs ms : List Int32} {f w : Int32} {I I' I0 : Nat → Nat → Int32} {R : Nat → Nat → Option Nat} {Q : Option Value × mj_H → Prop} {z : Int32 × Int32}
theorem md_rep.one (h : md_rep 1 U I) (hf : fr_1 I I') : md_rep 1 U I' := by
  obtain ⟨h0, ⟨a1, a2⟩, ⟨b1, b2⟩, hr, hl, c1, c2, c3⟩ := h
  refine ⟨h0, ⟨?_, a2⟩, ⟨?_, b2⟩, ?_, ?_, ?_, ?_, ?_⟩
  · rw [hf _ _ (by omega) (by omega) (by omega) (by omega)]; exact a1
  · rw [hf _ _ (by omega) (by omega) (by omega) (by omega)]; exact b1
  · intro i r hi
    obtain ⟨k0, k1, k2, k3, k4, k5, k6⟩ := hr i r hi
    refine ⟨?_, ?_, ?_, ?_, ?_, ?_, ?_⟩ <;> rw [hf _ _ (by omega) (by omega) (by omega) (by omega)] <;> assumption
  · intro i l hi
    obtain ⟨k0, k1, k2, k3, k4⟩ := hl i l hi
    refine ⟨?_, ?_, ?_, ?_, ?_⟩ <;> rw [hf _ _ (by omega) (by omega) (by omega) (by omega)] <;> assumption
  · rw [hf _ _ (by omega) (by omega) (by omega) (by omega)]; exact c1
  · rw [hf _ _ (by omega) (by omega) (by omega) (by omega)]; exact c2
  · rw [hf _ _ (by omega) (by omega) (by omega) (by omega)]; exact c3
/-- from the last to the first: what stays -/
theorem kp_step {α : Type} (g : α → Bool) (l : List α) {j : Nat} (hj : j < l.length) : l.take j ++ (l.drop j).filter g = if g l[j] = true then l.take (j + 1) ++ (l.drop (j + 1)).filter g else (l.take (j + 1) ++ (l.drop (j + 1)).filter g).eraseIdx j := by
  rw [List.drop_eq_getElem_cons hj, List.filter_cons, ← List.take_append_getElem hj]
  split
  · rw [List.append_assoc]; rfl
  · rw [List.append_assoc, List.eraseIdx_append_of_length_le (by rw [List.length_take]; omega)]
    rw [List.length_take, Nat.min_eq_left (by omega), Nat.sub_self]
    rfl
theorem kp_get {α : Type} (g : α → Bool) (l : List α) {j : Nat} (hj : j < l.length) : (l.take (j + 1) ++ (l.drop (j + 1)).filter g)[j]? = some l[j] := by
  rw [List.getElem?_append_left (by rw [List.length_take]; omega), List.getElem?_take_of_lt (by omega)]
  exact List.getElem?_eq_getElem hj
def m_fin (U : ty_st) : ty_st := (U.1, U.2.1.filter (fun l => ar_has U.1 l.2.1), U.2.2)
set_option maxHeartbeats 2000000 in
theorem l108 {st : Int32} {v3 v4 v5 : Value} (hm : mm_ok R) (hnu : ar_nd U.1) (hl6 : U.2.1.length ≤ 6)
    (hk : ∀ I1 v2, md_rep 1 (m_fin U) I1 → fr_2 I0 I1 → mj_T pj_P 108 43 [.ref 87, .int st, v2, v3, v4, v5] [] (mz_SH L, I1, R) Q) :
    ∀ (i : Nat) (I1 : Nat → Nat → Int32), i ≤ U.2.1.length → md_rep 1 (U.1, U.2.1.take i ++ (U.2.1.drop i).filter (fun l => ar_has U.1 l.2.1), U.2.2) I1 → fr_2 I0 I1 → mj_T pj_P 108 11 [.ref 87, .int st, .int (nI (9 + i)), v3, v4, v5] [] (mz_SH L, I1, R) Q := by
  have hm0 := hm
  obtain ⟨q0, q1, q2, q3, q4, q5, q6, q7, q8, q9, q10, q11, q16, q21⟩ := hm
  have h87 := sm_87 L
  have h94 := sm_94 L
  intro i
  induction i with
  | zero =>
    intro I1 hi h hf
    refine mj_b_iload_n (hE := fe_108_11) (hv := rfl) (k := ?_)
    refine mj_b_bipush (hE := fe_108_12) (k := ?_)
    refine mj_b_if2 (hE := fe_108_14) (kt := fun g => ?_) (kf := fun g => ?_)
    · exact hk _ _ h hf
    · exact absurd g (by decide)
  | succ j ih =>
    intro I1 hi h hf
    have hlt : j < U.2.1.length := by omega
    have hgj := kp_get (fun l : ty_lk => ar_has U.1 l.2.1) U.2.1 hlt
    have hlk := h.2.2.2.2.1 j _ hgj
    rw [Nat.mul_one] at hlk
    have hroot := hlk.2.1
    have hstep := kp_step (fun l : ty_lk => ar_has U.1 l.2.1) U.2.1 hlt
    have hnx : ∀ I2, md_rep 1 (U.1, U.2.1.take j ++ (U.2.1.drop j).filter (fun l => ar_has U.1 l.2.1), U.2.2) I2 → fr_2 I0 I2 → mj_T pj_P 108 37 [.ref 87, .int st, .int (nI (10 + j)), v3, v4, v5] [] (mz_SH L, I2, R) Q := by
      intro I2 h2 hf2
      refine mj_b_iinc (hE := fe_108_37) (hv := rfl) (k := ?_)
      refine mj_b_goto (hE := fe_108_40) (k := ?_)
      refine (show mj_T pj_P 108 11 [.ref 87, .int st, .int (nI (10 + j) + -1), v3, v4, v5] [] (mz_SH L, I2, R) Q from ?_)
      have e : nI (10 + j) + -1 = nI (9 + j) := by
        rw [show 10 + j = 9 + j + 1 by omega, nI_succ, Int32.add_assoc, show (1 : Int32) + -1 = 0 from rfl, Int32.add_zero]
      rw [e]
      exact ih I2 (by omega) h2 hf2
    rw [show 9 + (j + 1) = 10 + j by omega]
    refine mj_b_iload_n (hE := fe_108_11) (hv := rfl) (k := ?_)
    refine mj_b_bipush (hE := fe_108_12) (k := ?_)
    refine mj_b_if2 (hE := fe_108_14) (kt := fun g => ?_) (kf := fun g => ?_)
    · simp only [mj_cnd, decide_eq_true_eq] at g
      exact absurd g (by rw [show (10 : Int32) = nI 10 from rfl, nI_lt_iff (by omega) (by omega)]; omega)
    · refine mj_b_rload_n (hE := fe_108_17) (hv := rfl) (k := ?_)
      refine mj_b_rload_n (hE := fe_108_18) (hv := rfl) (k := ?_)
      refine mj_b_getQ (hE := fe_108_19) (hM := by assumption) (hv := by assumption) (k := ?_)
      refine mj_b_iload_n (hE := fe_108_22) (hv := rfl) (k := ?_)
      refine mj_b_ialdN (hE := fe_108_23) (hM := h94) (ht := Or.inr rfl) (hj := rfl) (hc := by omega) (hn := by decide) (hv := hroot) (k := ?_)
      refine mj_b_bipush (hE := fe_108_24) (k := ?_)
      refine mj_b_callR (hE := fe_108_26) (hi := in_101) (h1 := g101' (s := 1) _ hm0 h hnu) (hc := mj_cok_v rfl rfl h87) (ha := rfl) (hr := rfl) ?_
      cases hf1 : ar_fi U.1 (U.2.1[j]).2.1 with
      | none =>
        have hh := ar_fi_has U.1 (U.2.1[j]).2.1
        rw [hf1] at hh
        refine mj_b_if1 (hE := fe_108_29) (kt := fun m => ?_) (kf := fun m => ?_)
        · exact absurd m (by decide)
        · refine mj_b_rload_n (hE := fe_108_32) (hv := rfl) (k := ?_)
          refine mj_b_iload_n (hE := fe_108_33) (hv := rfl) (k := ?_)
          refine mj_b_call (hE := fe_108_34) (hi := in_109) (h1 := g109 (i := j) hm0 h (by rw [List.length_append, List.length_take]; omega)) (hc := mj_cok_v rfl rfl h87) (ha := rfl) (hr := rfl) ?_
          rintro v' M1 ⟨I2, hM, h2, hf2⟩
          cases hM
          refine hnx I2 ?_ (hf.trans hf2)
          rw [hstep, if_neg (by rw [← hh]; decide)]
          exact h2
      | some y =>
        obtain ⟨r, hr, -⟩ := ar_fi_some hf1
        have hjl := (List.getElem?_eq_some_iff.mp hr).1
        have h13 := h.2.1.2
        dsimp only at h13
        have hh := ar_fi_has U.1 (U.2.1[j]).2.1
        rw [hf1] at hh
        refine mj_b_if1 (hE := fe_108_29) (kt := fun m => ?_) (kf := fun m => ?_)
        · refine hnx I1 ?_ hf
          rw [hstep, if_pos (by rw [← hh]; rfl)]
          exact h
        · exact absurd (nI_pos' (n := 20 * 1 + y) (by omega)) (of_decide_eq_false m)
set_option maxHeartbeats 2000000 in
theorem l108b {v1 v2 v3 v4 : Value} (hm : mm_ok R) (h0 : md_rep 1 U I0) (hn0 : I0 98 0 = nI U.1.length)
    (hk : ∀ I1 v5, fr_1 I0 I1 → (∀ x j, ¬ ((88 ≤ x ∧ x ≤ 91) ∨ x = 92) → I1 x j = I0 x j) → (∀ j r, U.1[j]? = some r → mr_at I1 j r) → mj_T pj_P 108 181 [.ref 87, v1, v2, v3, v4, v5] [] (mz_SH L, I1, R) Q) :
    ∀ (k i : Nat) (I1 : Nat → Nat → Int32), i + k = U.1.length → fr_1 I0 I1 → (∀ x j, ¬ ((88 ≤ x ∧ x ≤ 91) ∨ x = 92) → I1 x j = I0 x j) → (∀ j r, j < i → U.1[j]? = some r → mr_at I1 j r) → mj_T pj_P 108 153 [.ref 87, v1, v2, v3, v4, .int (nI i)] [] (mz_SH L, I1, R) Q := by
  have hm0 := hm
  obtain ⟨q0, q1, q2, q3, q4, q5, q6, q7, q8, q9, q10, q11, q16, q21⟩ := hm
  have h87 := sm_87 L
  have h98 := sm_98 L
  have hn13 := h0.2.1.2
  intro k
  induction k with
  | zero =>
    intro i I1 hi hf ho hr
    have hin : i = U.1.length := by omega
    subst hin
    have hn : I1 98 0 = nI U.1.length := by rw [ho _ _ (by omega)]; exact hn0
    refine mj_b_iload (hE := fe_108_153) (hv := rfl) (k := ?_)
    refine mj_b_rload_n (hE := fe_108_155) (hv := rfl) (k := ?_)
    refine mj_b_getQ (hE := fe_108_156) (hM := by assumption) (hv := by assumption) (k := ?_)
    refine mj_b_iconst (hE := fe_108_159) (k := ?_)
    refine mj_b_ialdN (hE := fe_108_160) (c := 0) (hM := by assumption) (ht := Or.inr rfl) (hj := rfl) (hc := by decide) (hn := by decide) (hv := by first | assumption | rfl) (k := ?_)
    refine mj_b_if2 (hE := fe_108_161) (kt := fun g => ?_) (kf := fun g => ?_)
    · exact hk _ _ hf ho (fun j r hj => hr j r (List.getElem?_eq_some_iff.mp hj).1 hj)
    · simp [mj_cnd] at g
  | succ k ih =>
    intro i I1 hi hf ho hr
    have h1 := h0.one hf
    have hn : I1 98 0 = nI U.1.length := by rw [ho _ _ (by omega)]; exact hn0
    have hlt : i < U.1.length := by omega
    have hgi : U.1[i]? = some U.1[i] := List.getElem?_eq_getElem hlt
    have hri := h1.2.2.2.1 i _ hgi
    rw [Nat.mul_one] at hri
    refine mj_b_iload (hE := fe_108_153) (hv := rfl) (k := ?_)
    refine mj_b_rload_n (hE := fe_108_155) (hv := rfl) (k := ?_)
    refine mj_b_getQ (hE := fe_108_156) (hM := by assumption) (hv := by assumption) (k := ?_)
    refine mj_b_iconst (hE := fe_108_159) (k := ?_)
    refine mj_b_ialdN (hE := fe_108_160) (c := 0) (hM := by assumption) (ht := Or.inr rfl) (hj := rfl) (hc := by decide) (hn := by decide) (hv := by first | assumption | rfl) (k := ?_)
    refine mj_b_if2 (hE := fe_108_161) (kt := fun g => ?_) (kf := fun g => ?_)
    · simp only [mj_cnd, decide_eq_true_eq] at g
      exact absurd g (nI_ge (by omega) (by omega))
    · refine mj_b_rload_n (hE := fe_108_164) (hv := rfl) (k := ?_)
      refine mj_b_bipush (hE := fe_108_165) (k := ?_)
      refine mj_b_iload (hE := fe_108_167) (hv := rfl) (k := ?_)
      refine mj_b_iadd (hE := fe_108_169) (k := ?_)
      refine mj_b_iload (hE := fe_108_170) (hv := rfl) (k := ?_)
      refine (show mj_T pj_P 108 172 [.ref 87, v1, v2, v3, v4, .int (nI i)] [.int (nI i), .int (nI 20 + nI i), .ref 87] _ _ from ?_)
      rw [nI_add]
      refine mj_b_call (hE := fe_108_172) (hi := in_102) (h1 := g102 hm0 (by omega) (by omega) (by omega) hri) (hc := mj_cok_v rfl rfl h87) (ha := rfl) (hr := rfl) ?_
      rintro v' M1 ⟨I2, hM, hr2, hf2⟩
      cases hM
      refine (show mj_T pj_P 108 175 [.ref 87, v1, v2, v3, v4, .int (nI i)] [] (mz_SH L, I2, R) _ from ?_)
      refine mj_b_iinc (hE := fe_108_175) (hv := rfl) (k := ?_)
      refine mj_b_goto (hE := fe_108_178) (k := ?_)
      refine (show mj_T pj_P 108 153 [.ref 87, v1, v2, v3, v4, .int (nI i + 1)] [] (mz_SH L, I2, R) _ from ?_)
      rw [← nI_succ]
      refine ih (i + 1) I2 (by omega) (hf.trans (hf2.one (by omega))) (fun x j hx => by rw [hf2 _ _ (by omega) (by omega)]; exact ho x j hx) ?_
      intro j r hj hjr
      by_cases hji : j = i
      · subst hji
        rw [hgi, Option.some.injEq] at hjr
        rw [← hjr]
        exact hr2
      · exact (hr j r (by omega) hjr).fr hf2 (by omega)
set_option maxHeartbeats 2000000 in
theorem l108c {v1 v2 v3 v4 : Value} (hm : mm_ok R) (h0 : md_rep 1 U I0) (hn0 : I0 98 1 = nI U.2.1.length)
    (hk : ∀ I1 v5, fr_1 I0 I1 → (∀ x j, ¬ (93 ≤ x ∧ x ≤ 97) → I1 x j = I0 x j) → (∀ j l, U.2.1[j]? = some l → ml_at I1 j l) → mj_T pj_P 108 212 [.ref 87, v1, v2, v3, v4, v5] [] (mz_SH L, I1, R) Q) :
    ∀ (k i : Nat) (I1 : Nat → Nat → Int32), i + k = U.2.1.length → fr_1 I0 I1 → (∀ x j, ¬ (93 ≤ x ∧ x ≤ 97) → I1 x j = I0 x j) → (∀ j l, j < i → U.2.1[j]? = some l → ml_at I1 j l) → mj_T pj_P 108 184 [.ref 87, v1, v2, v3, v4, .int (nI i)] [] (mz_SH L, I1, R) Q := by
  have hm0 := hm
  obtain ⟨q0, q1, q2, q3, q4, q5, q6, q7, q8, q9, q10, q11, q16, q21⟩ := hm
  have h87 := sm_87 L
  have h98 := sm_98 L
  have hn6 := h0.2.2.1.2
  intro k
  induction k with
  | zero =>
    intro i I1 hi hf ho hr
    have hin : i = U.2.1.length := by omega
    subst hin
    have hn : I1 98 1 = nI U.2.1.length := by rw [ho _ _ (by omega)]; exact hn0
    refine mj_b_iload (hE := fe_108_184) (hv := rfl) (k := ?_)
    refine mj_b_rload_n (hE := fe_108_186) (hv := rfl) (k := ?_)
    refine mj_b_getQ (hE := fe_108_187) (hM := by assumption) (hv := by assumption) (k := ?_)
    refine mj_b_iconst (hE := fe_108_190) (k := ?_)
    refine mj_b_ialdN (hE := fe_108_191) (c := 1) (hM := by assumption) (ht := Or.inr rfl) (hj := rfl) (hc := by decide) (hn := by decide) (hv := by first | assumption | rfl) (k := ?_)
    refine mj_b_if2 (hE := fe_108_192) (kt := fun g => ?_) (kf := fun g => ?_)
    · exact hk _ _ hf ho (fun j r hj => hr j r (List.getElem?_eq_some_iff.mp hj).1 hj)
    · simp [mj_cnd] at g
  | succ k ih =>
    intro i I1 hi hf ho hr
    have h1 := h0.one hf
    have hn : I1 98 1 = nI U.2.1.length := by rw [ho _ _ (by omega)]; exact hn0
    have hlt : i < U.2.1.length := by omega
    have hgi : U.2.1[i]? = some U.2.1[i] := List.getElem?_eq_getElem hlt
    have hri := h1.2.2.2.2.1 i _ hgi
    rw [Nat.mul_one] at hri
    refine mj_b_iload (hE := fe_108_184) (hv := rfl) (k := ?_)
    refine mj_b_rload_n (hE := fe_108_186) (hv := rfl) (k := ?_)
    refine mj_b_getQ (hE := fe_108_187) (hM := by assumption) (hv := by assumption) (k := ?_)
    refine mj_b_iconst (hE := fe_108_190) (k := ?_)
    refine mj_b_ialdN (hE := fe_108_191) (c := 1) (hM := by assumption) (ht := Or.inr rfl) (hj := rfl) (hc := by decide) (hn := by decide) (hv := by first | assumption | rfl) (k := ?_)
    refine mj_b_if2 (hE := fe_108_192) (kt := fun g => ?_) (kf := fun g => ?_)
    · simp only [mj_cnd, decide_eq_true_eq] at g
      exact absurd g (nI_ge (by omega) (by omega))
    · refine mj_b_rload_n (hE := fe_108_195) (hv := rfl) (k := ?_)
      refine mj_b_bipush (hE := fe_108_196) (k := ?_)
      refine mj_b_iload (hE := fe_108_198) (hv := rfl) (k := ?_)
      refine mj_b_iadd (hE := fe_108_200) (k := ?_)
      refine mj_b_iload (hE := fe_108_201) (hv := rfl) (k := ?_)
      refine (show mj_T pj_P 108 203 [.ref 87, v1, v2, v3, v4, .int (nI i)] [.int (nI i), .int (nI 10 + nI i), .ref 87] _ _ from ?_)
      rw [nI_add]
      refine mj_b_call (hE := fe_108_203) (hi := in_103) (h1 := g103 hm0 (by omega) (by omega) hri) (hc := mj_cok_v rfl rfl h87) (ha := rfl) (hr := rfl) ?_
      rintro v' M1 ⟨I2, hM, hr2, hf2⟩
      cases hM
      refine (show mj_T pj_P 108 206 [.ref 87, v1, v2, v3, v4, .int (nI i)] [] (mz_SH L, I2, R) _ from ?_)
      refine mj_b_iinc (hE := fe_108_206) (hv := rfl) (k := ?_)
      refine mj_b_goto (hE := fe_108_209) (k := ?_)
      refine (show mj_T pj_P 108 184 [.ref 87, v1, v2, v3, v4, .int (nI i + 1)] [] (mz_SH L, I2, R) _ from ?_)
      rw [← nI_succ]
      refine ih (i + 1) I2 (by omega) (hf.trans (hf2.one (by omega))) (fun x j hx => by rw [hf2 _ _ (by omega)]; exact ho x j hx) ?_
      intro j r hj hjr
      by_cases hji : j = i
      · subst hji
        rw [hgi, Option.some.injEq] at hjr
        rw [← hjr]
        exact hr2
      · exact (hr j r (by omega) hjr).fr hf2 (by omega)
/-- what close leaves -/
def cl_post (L : Nat) (T U : ty_st) (f w st : Int32) (I0 : Nat → Nat → Int32) (R : Nat → Nat → Option Nat) (r : Option Value × mj_H) : Prop :=
  ∃ I', r = (some (.int (if a_int f (md_dif T (m_fin U)) = true then 0 else st)), (mz_SH L, I', R)) ∧ fr_M I0 I' ∧ m_all (if a_cmt f (md_dif T (m_fin U)) = true then m_fin U else T) [] (-1) (w + a_wr f (md_dif T (m_fin U))) [] I' ∧ ∀ j, I' 101 j = I0 101 j
end MZ
