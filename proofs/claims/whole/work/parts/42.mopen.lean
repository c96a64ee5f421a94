/-! ===== the model: its whole state; head; open ===== -/
/-- nothing but the model's cells has changed -/
def fr_M (I I' : Nat → Nat → Int32) : Prop := ∀ x j, (x < 87 ∨ 101 < x) → I' x j = I x j
theorem fr_M.refl {I : Nat → Nat → Int32} : fr_M I I := fun _ _ _ => rfl
theorem fr_M.trans {I J K : Nat → Nat → Int32} (h : fr_M I J) (h2 : fr_M J K) : fr_M I K := fun x j a => (h2 x j a).trans (h x j a)
theorem fr_M.u {I : Nat → Nat → Int32} {a j : Nat} {v : Int32} (h1 : 87 ≤ a) (h2 : a ≤ 101) : fr_M I (mj_u I a j v) := fun x k q => mj_u_na _ _ _ _ (by omega)
theorem fr_2.M {I I' : Nat → Nat → Int32} (h : fr_2 I I') : fr_M I I' := fun x j q => h x j (by omega) (by omega) (by omega) (by omega)
theorem fr_7.M {I I' : Nat → Nat → Int32} (h : fr_7 I I') : fr_M I I' := fun x j q => h x j (by omega) (by omega)
theorem fr_K.M {k : Nat} {I I' : Nat → Nat → Int32} (h : fr_K k I I') : fr_M I I' := fun x j q => h x j (by omega) (by omega)
theorem fr_Q.M {k : Nat} {I I' : Nat → Nat → Int32} (h : fr_Q k I I') : fr_M I I' := fun x j q => h x j (by omega)
/-- the model: its first side, the characters, the failure, the writes, what stayed -/
def m_all (T : ty_st) (hs : List Int32) (f w : Int32) (ms : List Int32) (I : Nat → Nat → Int32) : Prop :=
  md_rep 0 T I ∧ (I 87 12 = nI hs.length ∧ hs.length ≤ 24) ∧ (∀ i c, hs[i]? = some c → I 99 i = c) ∧ I 87 18 = f ∧ I 87 20 = w ∧ (I 87 22 = nI ms.length ∧ ms.length ≤ 16) ∧ ∀ i v, ms[i]? = some v → I 101 i = v
theorem m_all.two {T : ty_st} {hs : List Int32} {f w : Int32} {ms : List Int32} {I I' : Nat → Nat → Int32} (h : m_all T hs f w ms I) (hf : fr_2 I I') : m_all T hs f w ms I' := by
  obtain ⟨h1, ⟨h2, h3⟩, h4, h5, h6, ⟨h7, h8⟩, h9⟩ := h
  refine ⟨h1.two hf, ⟨?_, h3⟩, ?_, ?_, ?_, ⟨?_, h8⟩, ?_⟩
  · rw [hf _ _ (by omega) (by omega) (by omega) (by omega)]; exact h2
  · intro i c hc; rw [hf _ _ (by omega) (by omega) (by omega) (by omega)]; exact h4 i c hc
  · rw [hf _ _ (by omega) (by omega) (by omega) (by omega)]; exact h5
  · rw [hf _ _ (by omega) (by omega) (by omega) (by omega)]; exact h6
  · rw [hf _ _ (by omega) (by omega) (by omega) (by omega)]; exact h7
  · intro i c hc; rw [hf _ _ (by omega) (by omega) (by omega) (by omega)]; exact h9 i c hc
section MX
variable {L : Nat} {T : ty_st} {ts hs ms : List Int32} {f w : Int32} {I I' I0 : Nat → Nat → Int32} {R : Nat → Nat → Option Nat} {Q : Option Value × mj_H → Prop} {z : Int32 × Int32}
def m_hed (hs : List Int32) (c : Int32) : List Int32 := if hs.length < 24 ∧ pf_named c = true then hs ++ [c] else hs
set_option maxHeartbeats 2000000 in
/-- LockedTreeModel.head -/
theorem g89 (c : Int32) (hc : c.toUInt32.toUInt16.toUInt32.toInt32 = c) (hm : mm_ok R) (h : m_all T hs f w ms I) :
    mj_G pj_P 89 [.ref 87, .int c] (mz_SH L, I, R) (fun r => ∃ I', r = (some (.int (pz (decide (hs.length < 24 ∧ pf_named c = true)))), (mz_SH L, I', R)) ∧ m_all T (m_hed hs c) f w ms I' ∧ fr_M I I') := by
  have hm0 := hm
  obtain ⟨q0, q1, q2, q3, q4, q5, q6, q7, q8, q9, q10, q11, q16, q21⟩ := hm
  have h87 := sm_87 L
  have h99 := sm_99 L
  have h0 := h
  obtain ⟨h1, ⟨h2, h3⟩, h4, h5, h6, ⟨h7, h8⟩, h9⟩ := h
  have no : ¬ (hs.length < 24 ∧ pf_named c = true) → ∀ Lc, mj_T pj_P 89 67 Lc [] (mz_SH L, I, R) (fun r => ∃ I', r = (some (.int (pz (decide (hs.length < 24 ∧ pf_named c = true)))), (mz_SH L, I', R)) ∧ m_all T (m_hed hs c) f w ms I' ∧ fr_M I I') := by
    intro hn Lc
    refine mj_b_iconst (hE := fe_89_67) (k := ?_)
    refine mj_b_retZ (hE := fe_89_68) (hi := in_89) (Or.inl rfl) ⟨I, by rw [decide_eq_false hn]; rfl, ?_, fr_M.refl⟩
    unfold m_hed
    rw [if_neg hn]
    exact h0
  have p53 : ∀ t : Bool, t = pf_named c → mj_T pj_P 89 53 [.ref 87, .int c, .retAddr 0] [.int (pz t)] (mz_SH L, I, R) (fun r => ∃ I', r = (some (.int (pz (decide (hs.length < 24 ∧ pf_named c = true)))), (mz_SH L, I', R)) ∧ m_all T (m_hed hs c) f w ms I' ∧ fr_M I I') := by
    intro t ht
    refine mj_b_istore_n (hE := fe_89_53) (hx := Nat.le_of_ble_eq_true rfl) (k := ?_)
    refine mj_b_iload_n (hE := fe_89_54) (hv := rfl) (k := ?_)
    refine mj_b_if1 (hE := fe_89_55) (kt := fun g => ?_) (kf := fun g => ?_)
    · simp only [mj_cnd, decide_eq_true_eq, pz_0] at g
      exact no (by rw [← ht, g]; simp) _
    · simp only [mj_cnd, decide_eq_false_iff_not, pz_0, Bool.not_eq_false] at g
      refine mj_b_rload_n (hE := fe_89_58) (hv := rfl) (k := ?_)
      refine mj_b_getV (hE := fe_89_59) (hM := by assumption) (hv := by assumption) (k := ?_)
      refine mj_b_bipush (hE := fe_89_62) (k := ?_)
      refine mj_b_if2 (hE := fe_89_64) (kt := fun g2 => ?_) (kf := fun g2 => ?_)
      · simp only [mj_cnd, decide_eq_true_eq] at g2
        rw [show (24 : Int32) = nI 24 from rfl, nI_lt_iff (by omega) (by omega)] at g2
        have hy : hs.length < 24 ∧ pf_named c = true := ⟨g2, by rw [← ht]; exact g⟩
        refine mj_b_rload_n (hE := fe_89_69) (hv := rfl) (k := ?_)
        refine mj_b_getQ (hE := fe_89_70) (hM := by assumption) (hv := by assumption) (k := ?_)
        refine mj_b_rload_n (hE := fe_89_73) (hv := rfl) (k := ?_)
        refine mj_b_getV (hE := fe_89_74) (hM := by assumption) (hv := by assumption) (k := ?_)
        refine mj_b_iload_n (hE := fe_89_77) (hv := rfl) (k := ?_)
        refine mj_b_cast (hE := fe_89_78) (hM := h99) (hi := mj_ix_nI g2 (by decide)) (k := ?_)
        refine mj_b_rload_n (hE := fe_89_79) (hv := rfl) (k := ?_)
        refine mj_b_dup (hE := fe_89_80) (hv := rfl) (k := ?_)
        refine mj_b_getV (hE := fe_89_81) (v := nI hs.length) (hM := h87) (hv := by simp [mj_u, h2]) (k := ?_)
        refine mj_b_iconst (hE := fe_89_84) (k := ?_)
        refine mj_b_iadd (hE := fe_89_85) (k := ?_)
        refine mj_b_putI (hE := fe_89_86) (hw := Or.inl rfl) (hM := by assumption) (k := ?_)
        refine mj_b_iconst (hE := fe_89_89) (k := ?_)
        refine mj_b_retZ (hE := fe_89_90) (hi := in_89) (Or.inr rfl) ⟨_, by rw [decide_eq_true hy]; rfl, ?_, (fr_M.u (by omega) (by omega)).trans (fr_M.u (by omega) (by omega))⟩
        rw [nI_clamp (by omega), hc]
        unfold m_hed
        rw [if_pos hy]
        refine ⟨h1.eq (fun x j a b => by rw [mj_u_na _ _ _ _ (by omega), mj_u_na _ _ _ _ (by omega)]), ⟨by simp [mj_u, nI_succ], by simp; omega⟩, ?_, by simp [mj_u, h5], by simp [mj_u, h6], ⟨by simp [mj_u, h7], h8⟩, fun i v hv => by rw [mj_u_na _ _ _ _ (by omega), mj_u_na _ _ _ _ (by omega)]; exact h9 i v hv⟩
        intro i x hx
        rw [mj_u_na _ _ _ _ (by omega)]
        rw [List.getElem?_append] at hx
        split at hx
        · have : ¬ i = hs.length := by omega
          simp only [mj_u, this, and_false, if_false]
          exact h4 i x hx
        · have hl2 := (List.getElem?_eq_some_iff.mp hx).1
          simp only [List.length_cons, List.length_nil] at hl2
          have e : i = hs.length := by omega
          subst e
          simp only [Nat.sub_self, List.getElem?_cons_zero, Option.some.injEq] at hx
          simp [mj_u, hx]
      · simp only [mj_cnd, decide_eq_false_iff_not] at g2
        rw [show (24 : Int32) = nI 24 from rfl, nI_lt_iff (by omega) (by omega)] at g2
        exact no (fun hy => g2 hy.1) _
  have dig : ∀ {c : Int32}, c < 48 → pf_dig c = false := by intro c h; simp [pf_dig, pf_from, h]
  have dig2 : ∀ {c : Int32}, ¬ c ≤ 57 → pf_dig c = false := by
    intro c h
    have : (57 : Int32) < c := by rw [Int32.le_iff_toInt_le] at h; rw [Int32.lt_iff_toInt_lt]; omega
    simp [pf_dig, pf_from, this]
  have dig3 : ∀ {c : Int32}, ¬ c < 48 → c ≤ 57 → pf_dig c = true := by
    intro c h h2
    have : ¬ (57 : Int32) < c := by rw [Int32.le_iff_toInt_le] at h2; rw [Int32.lt_iff_toInt_lt]; omega
    simp [pf_dig, pf_from, h, this]
  have rest : pf_dig c = false → mj_T pj_P 89 12 [.ref 87, .int c, .retAddr 0] [] (mz_SH L, I, R) (fun r => ∃ I', r = (some (.int (pz (decide (hs.length < 24 ∧ pf_named c = true)))), (mz_SH L, I', R)) ∧ m_all T (m_hed hs c) f w ms I' ∧ fr_M I I') := by
    intro hd
    refine mj_b_iload_n (hE := fe_89_12) (hv := rfl) (k := ?_)
    refine mj_b_bipush (hE := fe_89_13) (k := ?_)
    refine mj_b_if2 (hE := fe_89_15) (kt := fun h15 => ?_) (kf := fun h15 => ?_)
    · simp only [mj_cnd, decide_eq_true_eq, decide_eq_false_iff_not, Bool.not_eq_true', Bool.not_eq_false', pz_0, Bool.not_eq_false, Bool.not_eq_true] at h15
      refine mj_b_iconst (hE := fe_89_48) (k := ?_)
      refine mj_b_goto (hE := fe_89_49) (k := ?_)
      exact p53 true (by simp [pf_named, hd, h15])
    · simp only [mj_cnd, decide_eq_true_eq, decide_eq_false_iff_not, Bool.not_eq_true', Bool.not_eq_false', pz_0, Bool.not_eq_false, Bool.not_eq_true] at h15
      refine mj_b_iload_n (hE := fe_89_18) (hv := rfl) (k := ?_)
      refine mj_b_bipush (hE := fe_89_19) (k := ?_)
      refine mj_b_if2 (hE := fe_89_21) (kt := fun h21 => ?_) (kf := fun h21 => ?_)
      · simp only [mj_cnd, decide_eq_true_eq, decide_eq_false_iff_not, Bool.not_eq_true', Bool.not_eq_false', pz_0, Bool.not_eq_false, Bool.not_eq_true] at h21
        refine mj_b_iconst (hE := fe_89_48) (k := ?_)
        refine mj_b_goto (hE := fe_89_49) (k := ?_)
        exact p53 true (by simp [pf_named, hd, h15, h21])
      · simp only [mj_cnd, decide_eq_true_eq, decide_eq_false_iff_not, Bool.not_eq_true', Bool.not_eq_false', pz_0, Bool.not_eq_false, Bool.not_eq_true] at h21
        refine mj_b_iload_n (hE := fe_89_24) (hv := rfl) (k := ?_)
        refine mj_b_bipush (hE := fe_89_25) (k := ?_)
        refine mj_b_if2 (hE := fe_89_27) (kt := fun h27 => ?_) (kf := fun h27 => ?_)
        · simp only [mj_cnd, decide_eq_true_eq, decide_eq_false_iff_not, Bool.not_eq_true', Bool.not_eq_false', pz_0, Bool.not_eq_false, Bool.not_eq_true] at h27
          refine mj_b_iconst (hE := fe_89_48) (k := ?_)
          refine mj_b_goto (hE := fe_89_49) (k := ?_)
          exact p53 true (by simp [pf_named, hd, h15, h21, h27])
        · simp only [mj_cnd, decide_eq_true_eq, decide_eq_false_iff_not, Bool.not_eq_true', Bool.not_eq_false', pz_0, Bool.not_eq_false, Bool.not_eq_true] at h27
          refine mj_b_iload_n (hE := fe_89_30) (hv := rfl) (k := ?_)
          refine mj_b_bipush (hE := fe_89_31) (k := ?_)
          refine mj_b_if2 (hE := fe_89_33) (kt := fun h33 => ?_) (kf := fun h33 => ?_)
          · simp only [mj_cnd, decide_eq_true_eq, decide_eq_false_iff_not, Bool.not_eq_true', Bool.not_eq_false', pz_0, Bool.not_eq_false, Bool.not_eq_true] at h33
            refine mj_b_iconst (hE := fe_89_48) (k := ?_)
            refine mj_b_goto (hE := fe_89_49) (k := ?_)
            exact p53 true (by simp [pf_named, hd, h15, h21, h27, h33])
          · simp only [mj_cnd, decide_eq_true_eq, decide_eq_false_iff_not, Bool.not_eq_true', Bool.not_eq_false', pz_0, Bool.not_eq_false, Bool.not_eq_true] at h33
            refine mj_b_iload_n (hE := fe_89_36) (hv := rfl) (k := ?_)
            refine mj_b_bipush (hE := fe_89_37) (k := ?_)
            refine mj_b_if2 (hE := fe_89_39) (kt := fun h39 => ?_) (kf := fun h39 => ?_)
            · simp only [mj_cnd, decide_eq_true_eq, decide_eq_false_iff_not, Bool.not_eq_true', Bool.not_eq_false', pz_0, Bool.not_eq_false, Bool.not_eq_true] at h39
              refine mj_b_iconst (hE := fe_89_48) (k := ?_)
              refine mj_b_goto (hE := fe_89_49) (k := ?_)
              exact p53 true (by simp [pf_named, hd, h15, h21, h27, h33, h39])
            · simp only [mj_cnd, decide_eq_true_eq, decide_eq_false_iff_not, Bool.not_eq_true', Bool.not_eq_false', pz_0, Bool.not_eq_false, Bool.not_eq_true] at h39
              refine mj_b_iload_n (hE := fe_89_42) (hv := rfl) (k := ?_)
              refine mj_b_bipush (hE := fe_89_43) (k := ?_)
              refine mj_b_if2 (hE := fe_89_45) (kt := fun h45 => ?_) (kf := fun h45 => ?_)
              · simp only [mj_cnd, decide_eq_true_eq, decide_eq_false_iff_not, Bool.not_eq_true', Bool.not_eq_false', pz_0, Bool.not_eq_false, Bool.not_eq_true] at h45
                refine mj_b_iconst (hE := fe_89_52) (k := ?_)
                exact p53 false (by simp [pf_named, hd, h15, h21, h27, h33, h39, h45])
              · simp only [mj_cnd, decide_eq_true_eq, decide_eq_false_iff_not, Bool.not_eq_true', Bool.not_eq_false', pz_0, Bool.not_eq_false, Bool.not_eq_true] at h45
                refine mj_b_iconst (hE := fe_89_48) (k := ?_)
                refine mj_b_goto (hE := fe_89_49) (k := ?_)
                exact p53 true (by simp [pf_named, hd, h15, h21, h27, h33, h39, h45])
  refine mj_enter in_89 (L := [.ref 87, .int c, .retAddr 0]) rfl ?_
  refine mj_b_iload_n (hE := fe_89_0) (hv := rfl) (k := ?_)
  refine mj_b_bipush (hE := fe_89_1) (k := ?_)
  refine mj_b_if2 (hE := fe_89_3) (kt := fun g => ?_) (kf := fun g => ?_)
  · simp only [mj_cnd, decide_eq_true_eq] at g
    exact rest (dig g)
  · simp only [mj_cnd, decide_eq_false_iff_not] at g
    refine mj_b_iload_n (hE := fe_89_6) (hv := rfl) (k := ?_)
    refine mj_b_bipush (hE := fe_89_7) (k := ?_)
    refine mj_b_if2 (hE := fe_89_9) (kt := fun g2 => ?_) (kf := fun g2 => ?_)
    · simp only [mj_cnd, decide_eq_true_eq] at g2
      refine mj_b_iconst (hE := fe_89_48) (k := ?_)
      refine mj_b_goto (hE := fe_89_49) (k := ?_)
      exact p53 true (by simp [pf_named, dig3 g g2])
    · simp only [mj_cnd, decide_eq_false_iff_not] at g2
      exact rest (dig2 g2)

set_option maxHeartbeats 2000000 in
theorem l93a {v1 v2 : Value} (hm : mm_ok R) (h0 : md_rep 0 T I0)
    (hk : ∀ I1 v3, fr_2 I0 I1 → (∀ x j, ¬ ((88 ≤ x ∧ x ≤ 91) ∨ x = 92) → I1 x j = I0 x j) → (∀ j r, T.1[j]? = some r → mr_at I1 (20 + j) r) → mj_T pj_P 93 85 [.ref 87, v1, v2, v3] [] (mz_SH L, I1, R) Q) :
    ∀ (k i : Nat) (I1 : Nat → Nat → Int32), i + k = T.1.length → fr_2 I0 I1 → (∀ x j, ¬ ((88 ≤ x ∧ x ≤ 91) ∨ x = 92) → I1 x j = I0 x j) → (∀ j r, j < i → T.1[j]? = some r → mr_at I1 (20 + j) r) → mj_T pj_P 93 60 [.ref 87, v1, v2, .int (nI i)] [] (mz_SH L, I1, R) Q := by
  have hm0 := hm
  obtain ⟨q0, q1, q2, q3, q4, q5, q6, q7, q8, q9, q10, q11, q16, q21⟩ := hm
  have h87 := sm_87 L
  have h98 := sm_98 L
  have hn13 := h0.2.1.2
  intro k
  induction k with
  | zero =>
    intro i I1 hi hf ho hr
    have hin : i = T.1.length := by omega
    subst hin
    have hn := (h0.two hf).2.1.1
    rw [Nat.mul_zero] at hn
    refine mj_b_iload_n (hE := fe_93_60) (hv := rfl) (k := ?_)
    refine mj_b_rload_n (hE := fe_93_61) (hv := rfl) (k := ?_)
    refine mj_b_getQ (hE := fe_93_62) (hM := by assumption) (hv := by assumption) (k := ?_)
    refine mj_b_iconst (hE := fe_93_65) (k := ?_)
    refine mj_b_ialdN (hE := fe_93_66) (c := 0) (hM := by assumption) (ht := Or.inr rfl) (hj := rfl) (hc := by decide) (hn := by decide) (hv := by first | assumption | rfl) (k := ?_)
    refine mj_b_if2 (hE := fe_93_67) (kt := fun g => ?_) (kf := fun g => ?_)
    · exact hk _ _ hf ho (fun j r hj => hr j r (List.getElem?_eq_some_iff.mp hj).1 hj)
    · simp [mj_cnd] at g
  | succ k ih =>
    intro i I1 hi hf ho hr
    have h1 := h0.two hf
    have hn := h1.2.1.1
    rw [Nat.mul_zero] at hn
    have hlt : i < T.1.length := by omega
    have hgi : T.1[i]? = some T.1[i] := List.getElem?_eq_getElem hlt
    have hri := h1.2.2.2.1 i _ hgi
    rw [Nat.mul_zero, Nat.zero_add] at hri
    refine mj_b_iload_n (hE := fe_93_60) (hv := rfl) (k := ?_)
    refine mj_b_rload_n (hE := fe_93_61) (hv := rfl) (k := ?_)
    refine mj_b_getQ (hE := fe_93_62) (hM := by assumption) (hv := by assumption) (k := ?_)
    refine mj_b_iconst (hE := fe_93_65) (k := ?_)
    refine mj_b_ialdN (hE := fe_93_66) (c := 0) (hM := by assumption) (ht := Or.inr rfl) (hj := rfl) (hc := by decide) (hn := by decide) (hv := by first | assumption | rfl) (k := ?_)
    refine mj_b_if2 (hE := fe_93_67) (kt := fun g => ?_) (kf := fun g => ?_)
    · simp only [mj_cnd, decide_eq_true_eq] at g
      exact absurd g (nI_ge (by omega) (by omega))
    · refine mj_b_rload_n (hE := fe_93_70) (hv := rfl) (k := ?_)
      refine mj_b_iload_n (hE := fe_93_71) (hv := rfl) (k := ?_)
      refine mj_b_bipush (hE := fe_93_72) (k := ?_)
      refine mj_b_iload_n (hE := fe_93_74) (hv := rfl) (k := ?_)
      refine mj_b_iadd (hE := fe_93_75) (k := ?_)
      refine (show mj_T pj_P 93 76 [.ref 87, v1, v2, .int (nI i)] [.int (nI 20 + nI i), .int (nI i), .ref 87] _ _ from ?_)
      rw [nI_add]
      refine mj_b_call (hE := fe_93_76) (hi := in_102) (h1 := g102 hm0 (by omega) (by omega) (by omega) hri) (hc := mj_cok_v rfl rfl h87) (ha := rfl) (hr := rfl) ?_
      rintro v' M1 ⟨I2, hM, hr2, hf2⟩
      cases hM
      refine (show mj_T pj_P 93 79 [.ref 87, v1, v2, .int (nI i)] [] (mz_SH L, I2, R) _ from ?_)
      refine mj_b_iinc (hE := fe_93_79) (hv := rfl) (k := ?_)
      refine mj_b_goto (hE := fe_93_82) (k := ?_)
      refine (show mj_T pj_P 93 60 [.ref 87, v1, v2, .int (nI i + 1)] [] (mz_SH L, I2, R) _ from ?_)
      rw [← nI_succ]
      refine ih (i + 1) I2 (by omega) (hf.trans (hf2.two (by omega))) (fun x j hx => by rw [hf2 _ _ (by omega) (by omega)]; exact ho x j hx) ?_
      intro j r hj hjr
      by_cases hji : j = i
      · subst hji
        rw [hgi, Option.some.injEq] at hjr
        rw [← hjr]
        exact hr2
      · exact (hr j r (by omega) hjr).fr hf2 (by omega)
set_option maxHeartbeats 2000000 in
theorem l93b {v1 v2 : Value} (hm : mm_ok R) (h0 : md_rep 0 T I0)
    (hk : ∀ I1 v3, fr_2 I0 I1 → (∀ x j, ¬ (93 ≤ x ∧ x ≤ 97) → I1 x j = I0 x j) → (∀ j l, T.2.1[j]? = some l → ml_at I1 (10 + j) l) → mj_T pj_P 93 112 [.ref 87, v1, v2, v3] [] (mz_SH L, I1, R) Q) :
    ∀ (k i : Nat) (I1 : Nat → Nat → Int32), i + k = T.2.1.length → fr_2 I0 I1 → (∀ x j, ¬ (93 ≤ x ∧ x ≤ 97) → I1 x j = I0 x j) → (∀ j l, j < i → T.2.1[j]? = some l → ml_at I1 (10 + j) l) → mj_T pj_P 93 87 [.ref 87, v1, v2, .int (nI i)] [] (mz_SH L, I1, R) Q := by
  have hm0 := hm
  obtain ⟨q0, q1, q2, q3, q4, q5, q6, q7, q8, q9, q10, q11, q16, q21⟩ := hm
  have h87 := sm_87 L
  have h98 := sm_98 L
  have hn6 := h0.2.2.1.2
  intro k
  induction k with
  | zero =>
    intro i I1 hi hf ho hr
    have hin : i = T.2.1.length := by omega
    subst hin
    have hn := (h0.two hf).2.2.1.1
    simp only [Nat.mul_zero, Nat.zero_add] at hn
    refine mj_b_iload_n (hE := fe_93_87) (hv := rfl) (k := ?_)
    refine mj_b_rload_n (hE := fe_93_88) (hv := rfl) (k := ?_)
    refine mj_b_getQ (hE := fe_93_89) (hM := by assumption) (hv := by assumption) (k := ?_)
    refine mj_b_iconst (hE := fe_93_92) (k := ?_)
    refine mj_b_ialdN (hE := fe_93_93) (c := 1) (hM := by assumption) (ht := Or.inr rfl) (hj := rfl) (hc := by decide) (hn := by decide) (hv := by first | assumption | rfl) (k := ?_)
    refine mj_b_if2 (hE := fe_93_94) (kt := fun g => ?_) (kf := fun g => ?_)
    · exact hk _ _ hf ho (fun j r hj => hr j r (List.getElem?_eq_some_iff.mp hj).1 hj)
    · simp [mj_cnd] at g
  | succ k ih =>
    intro i I1 hi hf ho hr
    have h1 := h0.two hf
    have hn := h1.2.2.1.1
    simp only [Nat.mul_zero, Nat.zero_add] at hn
    have hlt : i < T.2.1.length := by omega
    have hgi : T.2.1[i]? = some T.2.1[i] := List.getElem?_eq_getElem hlt
    have hri := h1.2.2.2.2.1 i _ hgi
    rw [Nat.mul_zero, Nat.zero_add] at hri
    refine mj_b_iload_n (hE := fe_93_87) (hv := rfl) (k := ?_)
    refine mj_b_rload_n (hE := fe_93_88) (hv := rfl) (k := ?_)
    refine mj_b_getQ (hE := fe_93_89) (hM := by assumption) (hv := by assumption) (k := ?_)
    refine mj_b_iconst (hE := fe_93_92) (k := ?_)
    refine mj_b_ialdN (hE := fe_93_93) (c := 1) (hM := by assumption) (ht := Or.inr rfl) (hj := rfl) (hc := by decide) (hn := by decide) (hv := by first | assumption | rfl) (k := ?_)
    refine mj_b_if2 (hE := fe_93_94) (kt := fun g => ?_) (kf := fun g => ?_)
    · simp only [mj_cnd, decide_eq_true_eq] at g
      exact absurd g (nI_ge (by omega) (by omega))
    · refine mj_b_rload_n (hE := fe_93_97) (hv := rfl) (k := ?_)
      refine mj_b_iload_n (hE := fe_93_98) (hv := rfl) (k := ?_)
      refine mj_b_bipush (hE := fe_93_99) (k := ?_)
      refine mj_b_iload_n (hE := fe_93_101) (hv := rfl) (k := ?_)
      refine mj_b_iadd (hE := fe_93_102) (k := ?_)
      refine (show mj_T pj_P 93 103 [.ref 87, v1, v2, .int (nI i)] [.int (nI 10 + nI i), .int (nI i), .ref 87] _ _ from ?_)
      rw [nI_add]
      refine mj_b_call (hE := fe_93_103) (hi := in_103) (h1 := g103 hm0 (by omega) (by omega) hri) (hc := mj_cok_v rfl rfl h87) (ha := rfl) (hr := rfl) ?_
      rintro v' M1 ⟨I2, hM, hr2, hf2⟩
      cases hM
      refine (show mj_T pj_P 93 106 [.ref 87, v1, v2, .int (nI i)] [] (mz_SH L, I2, R) _ from ?_)
      refine mj_b_iinc (hE := fe_93_106) (hv := rfl) (k := ?_)
      refine mj_b_goto (hE := fe_93_109) (k := ?_)
      refine (show mj_T pj_P 93 87 [.ref 87, v1, v2, .int (nI i + 1)] [] (mz_SH L, I2, R) _ from ?_)
      rw [← nI_succ]
      refine ih (i + 1) I2 (by omega) (hf.trans (hf2.two (by omega))) (fun x j hx => by rw [hf2 _ _ (by omega)]; exact ho x j hx) ?_
      intro j r hj hjr
      by_cases hji : j = i
      · subst hji
        rw [hgi, Option.some.injEq] at hjr
        rw [← hjr]
        exact hr2
      · exact (hr j r (by omega) hjr).fr hf2 (by omega)
end MX
