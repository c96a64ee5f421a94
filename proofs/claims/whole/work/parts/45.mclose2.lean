/-! ===== the model: close ===== -/
section NA
variable {L : Nat} {T U V : ty_st} {ts hs ms : List Int32} {f w : Int32} {I I' I0 : Nat → Nat → Int32} {R : Nat → Nat → Option Nat} {Q : Option Value × mj_H → Prop} {z : Int32 × Int32}
set_option maxHeartbeats 4000000 in
/-- the second side is passed to the first -/
theorem l108d {st k due : Int32} {bk : Bool} {v5 : Value} (hm : mm_ok R) (h : m_all T [] (-1) w [] I) (hu : md_rep 1 V I)
    (hk : ∀ I1 v5, m_all V [] (-1) w [] I1 → fr_M I I1 → (∀ j, I1 101 j = I 101 j) → mj_T pj_P 108 212 [.ref 87, .int st, .int k, .int due, .int (pz bk), v5] [] (mz_SH L, I1, R) Q) :
    mj_T pj_P 108 119 [.ref 87, .int st, .int k, .int due, .int (pz bk), v5] [] (mz_SH L, I, R) Q := by
  have hm0 := hm
  obtain ⟨q0, q1, q2, q3, q4, q5, q6, q7, q8, q9, q10, q11, q16, q21⟩ := hm
  have h87 := sm_87 L
  have h98 := sm_98 L
  have hu0 := hu
  obtain ⟨-, ⟨a1, a2⟩, ⟨b1, b2⟩, hr, hl, c1, c2, c3⟩ := hu
  simp only [Nat.mul_one, Nat.reduceAdd] at a1 b1 c1 c2 c3
  have st2 : ∀ (I3 : Nat → Nat → Int32) (i : Nat) (v : Int32) (Qq : Option Value × mj_H → Prop), i < 5 → I3 98 (5 + i) = v → mj_T pj_P 108 122 [.ref 87, .int st, .int k, .int due, .int (pz bk), .int (nI (i + 1))] [] (mz_SH L, mj_u I3 98 i v, R) Qq → mj_T pj_P 108 122 [.ref 87, .int st, .int k, .int due, .int (pz bk), .int (nI i)] [] (mz_SH L, I3, R) Qq := by
    intro I3 i v Qq hi hv hQ
    refine mj_b_iload (hE := fe_108_122) (hv := rfl) (k := ?_)
    refine mj_b_iconst (hE := fe_108_124) (k := ?_)
    refine mj_b_if2 (hE := fe_108_125) (kt := fun g => ?_) (kf := fun g => ?_)
    · simp only [mj_cnd, decide_eq_true_eq] at g
      exact absurd g (by rw [show (5 : Int32) = nI 5 from rfl, nI_le_iff (by omega) (by omega)]; omega)
    · refine mj_b_rload_n (hE := fe_108_128) (hv := rfl) (k := ?_)
      refine mj_b_getQ (hE := fe_108_129) (hM := by assumption) (hv := by assumption) (k := ?_)
      refine mj_b_iload (hE := fe_108_132) (hv := rfl) (k := ?_)
      refine mj_b_rload_n (hE := fe_108_134) (hv := rfl) (k := ?_)
      refine mj_b_getQ (hE := fe_108_135) (hM := by assumption) (hv := by assumption) (k := ?_)
      refine mj_b_iconst (hE := fe_108_138) (k := ?_)
      refine mj_b_iload (hE := fe_108_139) (hv := rfl) (k := ?_)
      refine mj_b_iadd (hE := fe_108_141) (k := ?_)
      refine mj_b_ialdN (hE := fe_108_142) (v := v) (c := 5 + i) (hM := h98) (ht := Or.inr rfl) (hj := by rw [← nI_add]; rfl) (hc := by omega) (hn := by decide) (hv := hv) (k := ?_)
      refine mj_b_iastN (hE := fe_108_143) (hM := h98) (hj := rfl) (hc := by omega) (hn := by decide) (k := ?_)
      refine mj_b_iinc (hE := fe_108_144) (hv := rfl) (k := ?_)
      refine mj_b_goto (hE := fe_108_147) (k := ?_)
      exact (show mj_T pj_P 108 122 [.ref 87, .int st, .int k, .int due, .int (pz bk), .int (nI i + 1)] [] (mz_SH L, mj_u I3 98 i v, R) Qq from (nI_succ i) ▸ hQ)
  refine mj_b_iconst (hE := fe_108_119) (k := ?_)
  refine mj_b_istore (hE := fe_108_120) (hx := Nat.le_of_ble_eq_true rfl) (k := ?_)
  refine st2 I 0 (nI V.1.length) _ (by omega) (by simp [a1]) ?_
  refine st2 _ 1 (nI V.2.1.length) _ (by omega) (by simp [mj_u, b1]) ?_
  refine st2 _ 2 V.2.2.1 _ (by omega) (by simp [mj_u, c1]) ?_
  refine st2 _ 3 (I 98 8) _ (by omega) (by simp [mj_u]) ?_
  refine st2 _ 4 (I 98 9) _ (by omega) (by simp [mj_u]) ?_
  generalize hK : mj_u (mj_u (mj_u (mj_u (mj_u I 98 0 (nI V.1.length)) 98 1 (nI V.2.1.length)) 98 2 V.2.2.1) 98 3 (I 98 8)) 98 4 (I 98 9) = K
  have fK : fr_1 I K := by
    rw [← hK]
    exact ((((fr_1.u (by omega)).trans (fr_1.u (by omega))).trans (fr_1.u (by omega))).trans (fr_1.u (by omega))).trans (fr_1.u (by omega))
  have k0 : K 98 0 = nI V.1.length := by rw [← hK]; simp [mj_u]
  have k1 : K 98 1 = nI V.2.1.length := by rw [← hK]; simp [mj_u]
  have k2 : K 98 2 = V.2.2.1 := by rw [← hK]; simp [mj_u]
  have k3 : K 98 3 = I 98 8 := by rw [← hK]; simp [mj_u]
  have k4 : K 98 4 = I 98 9 := by rw [← hK]; simp [mj_u]
  have hKu := hu0.one fK
  refine mj_b_iload (hE := fe_108_122) (hv := rfl) (k := ?_)
  refine mj_b_iconst (hE := fe_108_124) (k := ?_)
  refine mj_b_if2 (hE := fe_108_125) (kt := fun g => ?_) (kf := fun g => ?_)
  · refine mj_b_iconst (hE := fe_108_150) (k := ?_)
    refine mj_b_istore (hE := fe_108_151) (hx := Nat.le_of_ble_eq_true rfl) (k := ?_)
    refine l108b (I0 := K) hm0 hKu k0 ?_ V.1.length 0 K (by omega) fr_1.refl (fun _ _ _ => rfl) (fun j r hj => by omega)
    intro I1 v5 f1 o1 r1
    refine mj_b_iconst (hE := fe_108_181) (k := ?_)
    refine mj_b_istore (hE := fe_108_182) (hx := Nat.le_of_ble_eq_true rfl) (k := ?_)
    have k11 : I1 98 1 = nI V.2.1.length := by rw [o1 _ _ (by omega)]; exact k1
    refine l108c (I0 := I1) hm0 (hKu.one f1) k11 ?_ V.2.1.length 0 I1 (by omega) fr_1.refl (fun _ _ _ => rfl) (fun j r hj => by omega)
    intro I2 v5 f2 o2 r2
    have f12 : fr_1 I I2 := (fK.trans f1).trans f2
    have e98 : ∀ j, I2 98 j = K 98 j := fun j => by rw [o2 _ _ (by omega), o1 _ _ (by omega)]
    obtain ⟨m1, ⟨m2, m3⟩, m4, m5, m6, ⟨m7, m8⟩, m9⟩ := h
    refine hk I2 v5 ⟨⟨Or.inl rfl, ⟨?_, a2⟩, ⟨?_, b2⟩, ?_, ?_, ?_, ?_, ?_⟩, ⟨?_, m3⟩, by simp, ?_, ?_, ⟨?_, m8⟩, by simp⟩ f12.M ?_
    · rw [e98]; exact k0
    · rw [e98]; exact k1
    · intro i r hi
      rw [Nat.mul_zero, Nat.zero_add]
      exact (r1 i r hi).eq (fun x j a b => o2 _ _ (by omega))
    · intro i l hi
      rw [Nat.mul_zero, Nat.zero_add]
      exact r2 i l hi
    · rw [e98]; exact k2
    · rw [e98, k3]; exact c2
    · rw [e98, k4]; exact c3
    · rw [f12 _ _ (by omega) (by omega) (by omega) (by omega)]; exact m2
    · rw [f12 _ _ (by omega) (by omega) (by omega) (by omega)]; exact m5
    · rw [f12 _ _ (by omega) (by omega) (by omega) (by omega)]; exact m6
    · rw [f12 _ _ (by omega) (by omega) (by omega) (by omega)]; exact m7
    · intro j
      exact f12 _ _ (by omega) (by omega) (by omega) (by omega)
  · exact absurd g (by decide)
set_option maxHeartbeats 4000000 in
/-- LockedTreeModel.close -/
theorem g108 (st : Int32) (hm : mm_ok R) (h : m_all T [] (-1) w [] I) (hu : md_rep 1 U I) (hb : I 87 19 = f) (hf : f = -1 ∨ ¬ f < 0) (hnt : ar_nd T.1) (hnu : ar_nd U.1) (hkt : ∀ r ∈ T.1, r.2.1 = 1 ∨ r.2.1 = 2) (hku : ∀ r ∈ U.1, r.2.1 = 1 ∨ r.2.1 = 2) :
    mj_G pj_P 108 [.ref 87, .int st] (mz_SH L, I, R) (cl_post L T U f w st I R) := by
  have hm0 := hm
  obtain ⟨q0, q1, q2, q3, q4, q5, q6, q7, q8, q9, q10, q11, q16, q21⟩ := hm
  have h87 := sm_87 L
  have h98 := sm_98 L
  have b1 := hu.2.2.1.1
  have b2 := hu.2.2.1.2
  simp only [Nat.mul_one, Nat.reduceAdd] at b1
  refine mj_enter in_108 (L := [.ref 87, .int st, .retAddr 0, .retAddr 0, .retAddr 0, .retAddr 0]) rfl ?_
  refine mj_b_bipush (hE := fe_108_0) (k := ?_)
  refine mj_b_rload_n (hE := fe_108_2) (hv := rfl) (k := ?_)
  refine mj_b_getQ (hE := fe_108_3) (hM := by assumption) (hv := by assumption) (k := ?_)
  refine mj_b_bipush (hE := fe_108_6) (k := ?_)
  refine mj_b_ialdN (hE := fe_108_8) (c := 6) (hM := by assumption) (ht := Or.inr rfl) (hj := rfl) (hc := by decide) (hn := by decide) (hv := by first | assumption | rfl) (k := ?_)
  refine mj_b_iadd (hE := fe_108_9) (k := ?_)
  refine mj_b_istore_n (hE := fe_108_10) (hx := Nat.le_of_ble_eq_true rfl) (k := ?_)
  refine (show mj_T pj_P 108 11 [.ref 87, .int st, .int (nI 9 + nI U.2.1.length), .retAddr 0, .retAddr 0, .retAddr 0] [] _ _ from ?_)
  rw [nI_add]
  refine l108 (I0 := I) hm0 hnu b2 ?_ U.2.1.length I (Nat.le_refl _) (by rw [List.take_length, List.drop_length]; simpa using hu) fr_2.refl
  intro I1 v2 hu1 f1
  have h1 := h.two f1
  have hb1 : I1 87 19 = f := by rw [f1 _ _ (by omega) (by omega) (by omega) (by omega)]; exact hb
  have hw1 : I1 87 20 = w := h1.2.2.2.2.1
  have f101 : ∀ j, I1 101 j = I 101 j := fun j => f1 _ _ (by omega) (by omega) (by omega) (by omega)
  refine mj_b_rload_n (hE := fe_108_43) (hv := rfl) (k := ?_)
  refine mj_b_callR (hE := fe_108_44) (hi := in_110) (h1 := g110 (T := T) (U := m_fin U) hm0 h1.1 hu1 hnt hnu hkt hku) (hc := mj_cok_v rfl rfl h87) (ha := rfl) (hr := rfl) ?_
  unfold cl_post
  generalize md_dif T (m_fin U) = k
  have p212 : ∀ (it : Bool) (I2 : Nat → Nat → Int32) (T2 : ty_st) (w2 due : Int32) (v5 : Value), it = a_int f k → T2 = (if a_cmt f k = true then m_fin U else T) → w2 = w + a_wr f k → m_all T2 [] (-1) w2 [] I2 → fr_M I I2 → (∀ j, I2 101 j = I 101 j) → mj_T pj_P 108 212 [.ref 87, .int st, .int k, .int due, .int (pz it), v5] [] (mz_SH L, I2, R) (fun r => ∃ I', r = (some (.int (if a_int f k = true then 0 else st)), (mz_SH L, I', R)) ∧ fr_M I I' ∧ m_all (if a_cmt f k = true then m_fin U else T) [] (-1) (w + a_wr f k) [] I' ∧ ∀ j, I' 101 j = I 101 j) := by
    intro it I2 T2 w2 due v5 hit hT2 hw2 h2 fM h101
    rw [hT2, hw2] at h2
    refine mj_b_iload (hE := fe_108_212) (hv := rfl) (k := ?_)
    refine mj_b_if1 (hE := fe_108_214) (kt := fun g => ?_) (kf := fun g => ?_)
    · simp only [mj_cnd, decide_eq_true_eq, pz_0] at g
      refine mj_b_iload_n (hE := fe_108_221) (hv := rfl) (k := ?_)
      exact mj_b_retI (hE := fe_108_222) (hi := in_108) ⟨I2, by rw [← hit, g]; rfl, fM, h2, h101⟩
    · simp only [mj_cnd, decide_eq_false_iff_not, pz_0, Bool.not_eq_false] at g
      refine mj_b_iconst (hE := fe_108_217) (k := ?_)
      refine mj_b_goto (hE := fe_108_218) (k := ?_)
      exact mj_b_retI (hE := fe_108_222) (hi := in_108) ⟨I2, by rw [← hit, g]; rfl, fM, h2, h101⟩
  have p106 : ∀ (it : Bool) (due : Int32) (v5 : Value), it = a_int f k → mj_T pj_P 108 106 [.ref 87, .int st, .int k, .int due, .int (pz it), v5] [] (mz_SH L, mj_u I1 87 20 (w + a_wr f k), R) (fun r => ∃ I', r = (some (.int (if a_int f k = true then 0 else st)), (mz_SH L, I', R)) ∧ fr_M I I' ∧ m_all (if a_cmt f k = true then m_fin U else T) [] (-1) (w + a_wr f k) [] I' ∧ ∀ j, I' 101 j = I 101 j) := by
    intro it due v5 hit
    have h2 : m_all T [] (-1) (w + a_wr f k) [] (mj_u I1 87 20 (w + a_wr f k)) := by
      obtain ⟨m1, ⟨m2, m3⟩, m4, m5, m6, ⟨m7, m8⟩, m9⟩ := h1
      exact ⟨m1.eq (fun x j a b => mj_u_na _ _ _ _ (by omega)), ⟨by simp [mj_u, m2], m3⟩, by simp, by simp [mj_u, m5], by simp [mj_u], ⟨by simp [mj_u, m7], m8⟩, by simp⟩
    have hu2 : md_rep 1 (m_fin U) (mj_u I1 87 20 (w + a_wr f k)) := hu1.eq (fun x j a b => mj_u_na _ _ _ _ (by omega))
    have fM : fr_M I (mj_u I1 87 20 (w + a_wr f k)) := f1.M.trans (fr_M.u (by omega) (by omega))
    have h101 : ∀ j, mj_u I1 87 20 (w + a_wr f k) 101 j = I 101 j := fun j => by rw [mj_u_na _ _ _ _ (by omega)]; exact f101 j
    have hb2 : mj_u I1 87 20 (w + a_wr f k) 87 19 = f := by simp [mj_u, hb1]
    generalize mj_u I1 87 20 (w + a_wr f k) = J at h2 hu2 fM h101 hb2 ⊢
    have commit : a_cmt f k = true → ∀ v5, mj_T pj_P 108 119 [.ref 87, .int st, .int k, .int due, .int (pz it), v5] [] (mz_SH L, J, R) (fun r => ∃ I', r = (some (.int (if a_int f k = true then 0 else st)), (mz_SH L, I', R)) ∧ fr_M I I' ∧ m_all (if a_cmt f k = true then m_fin U else T) [] (-1) (w + a_wr f k) [] I' ∧ ∀ j, I' 101 j = I 101 j) := by
      intro hcm v5
      refine l108d hm0 h2 hu2 ?_
      intro I3 v5 h3 f3 h103
      exact p212 it I3 (m_fin U) _ due v5 hit (by rw [if_pos hcm]) rfl h3 (fM.trans f3) (fun j => (h103 j).trans (h101 j))
    refine mj_b_iload (hE := fe_108_106) (hv := rfl) (k := ?_)
    refine mj_b_if1 (hE := fe_108_108) (kt := fun g => ?_) (kf := fun g => ?_)
    · simp only [mj_cnd, decide_eq_true_eq, pz_0] at g
      exact commit (by simp [a_cmt, ← hit, g]) _
    · simp only [mj_cnd, decide_eq_false_iff_not, pz_0, Bool.not_eq_false] at g
      refine mj_b_rload_n (hE := fe_108_111) (hv := rfl) (k := ?_)
      refine mj_b_getV (hE := fe_108_112) (hM := by assumption) (hv := by assumption) (k := ?_)
      refine mj_b_iload_n (hE := fe_108_115) (hv := rfl) (k := ?_)
      refine mj_b_if2 (hE := fe_108_116) (kt := fun q => ?_) (kf := fun q => ?_)
      · simp only [mj_cnd, decide_eq_true_eq] at q
        have hcm : a_cmt f k = false := by simp [a_cmt, ← hit, g, q]
        exact p212 it J T _ due _ hit (by rw [hcm]; rfl) rfl h2 fM h101
      · simp only [mj_cnd, decide_eq_false_iff_not] at q
        exact commit (by simp [a_cmt, q]) _
  have p82 : ∀ (it : Bool) (due : Int32), it = a_int f k → due = a_due k → mj_T pj_P 108 82 [.ref 87, .int st, .int k, .int due, .retAddr 0, .retAddr 0] [.int (pz it)] (mz_SH L, I1, R) (fun r => ∃ I', r = (some (.int (if a_int f k = true then 0 else st)), (mz_SH L, I', R)) ∧ fr_M I I' ∧ m_all (if a_cmt f k = true then m_fin U else T) [] (-1) (w + a_wr f k) [] I' ∧ ∀ j, I' 101 j = I 101 j) := by
    intro it due hit hdue
    refine mj_b_istore (hE := fe_108_82) (hx := Nat.le_of_ble_eq_true rfl) (k := ?_)
    refine mj_b_rload_n (hE := fe_108_84) (hv := rfl) (k := ?_)
    refine mj_b_dup (hE := fe_108_85) (hv := rfl) (k := ?_)
    refine mj_b_getV (hE := fe_108_86) (hM := by assumption) (hv := by assumption) (k := ?_)
    refine mj_b_iload (hE := fe_108_89) (hv := rfl) (k := ?_)
    refine mj_b_if1 (hE := fe_108_91) (kt := fun g => ?_) (kf := fun g => ?_)
    · simp only [mj_cnd, decide_eq_true_eq, pz_0] at g
      refine mj_b_iload_n (hE := fe_108_101) (hv := rfl) (k := ?_)
      refine mj_b_iadd (hE := fe_108_102) (k := ?_)
      refine mj_b_putI (hE := fe_108_103) (hw := Or.inl rfl) (hM := by assumption) (k := ?_)
      have ew : w + a_wr f k = w + due := by simp [a_wr, ← hit, g, hdue]
      have := p106 it due (.retAddr 0) hit
      rw [ew] at this ⊢
      exact this
    · simp only [mj_cnd, decide_eq_false_iff_not, pz_0, Bool.not_eq_false] at g
      refine mj_b_rload_n (hE := fe_108_94) (hv := rfl) (k := ?_)
      refine mj_b_getV (hE := fe_108_95) (hM := by assumption) (hv := by assumption) (k := ?_)
      refine mj_b_goto (hE := fe_108_98) (k := ?_)
      refine mj_b_iadd (hE := fe_108_102) (k := ?_)
      refine mj_b_putI (hE := fe_108_103) (hw := Or.inl rfl) (hM := by assumption) (k := ?_)
      have ew : w + a_wr f k = w + f := by simp [a_wr, ← hit, g]
      have := p106 it due (.retAddr 0) hit
      rw [ew] at this ⊢
      exact this
  have p61 : ∀ due : Int32, due = a_due k → mj_T pj_P 108 61 [.ref 87, .int st, .int k, .retAddr 0, .retAddr 0, .retAddr 0] [.int due] (mz_SH L, I1, R) (fun r => ∃ I', r = (some (.int (if a_int f k = true then 0 else st)), (mz_SH L, I', R)) ∧ fr_M I I' ∧ m_all (if a_cmt f k = true then m_fin U else T) [] (-1) (w + a_wr f k) [] I' ∧ ∀ j, I' 101 j = I 101 j) := by
    intro due hdue
    refine mj_b_istore_n (hE := fe_108_61) (hx := Nat.le_of_ble_eq_true rfl) (k := ?_)
    refine mj_b_rload_n (hE := fe_108_62) (hv := rfl) (k := ?_)
    refine mj_b_getV (hE := fe_108_63) (hM := by assumption) (hv := by assumption) (k := ?_)
    refine mj_b_if1 (hE := fe_108_66) (kt := fun g => ?_) (kf := fun g => ?_)
    · simp only [mj_cnd, decide_eq_true_eq] at g
      refine mj_b_iconst (hE := fe_108_81) (k := ?_)
      have hf1 : f = -1 := by rcases hf with e | e; exact e; exact absurd g e
      exact p82 false due (by simp [a_int, hf1]) hdue
    · simp only [mj_cnd, decide_eq_false_iff_not] at g
      have hf1 : ¬ f = -1 := by rintro rfl; exact g (by decide)
      refine mj_b_iload_n (hE := fe_108_69) (hv := rfl) (k := ?_)
      refine mj_b_rload_n (hE := fe_108_70) (hv := rfl) (k := ?_)
      refine mj_b_getV (hE := fe_108_71) (hM := by assumption) (hv := by assumption) (k := ?_)
      refine mj_b_if2 (hE := fe_108_74) (kt := fun q => ?_) (kf := fun q => ?_)
      · simp only [mj_cnd, decide_eq_true_eq] at q
        refine mj_b_iconst (hE := fe_108_81) (k := ?_)
        exact p82 false due (by simp [a_int, ← hdue, q]) hdue
      · simp only [mj_cnd, decide_eq_false_iff_not] at q
        refine mj_b_iconst (hE := fe_108_77) (k := ?_)
        refine mj_b_goto (hE := fe_108_78) (k := ?_)
        exact p82 true due (by simp [a_int, hf1, ← hdue, q]) hdue
  refine mj_b_istore_n (hE := fe_108_47) (hx := Nat.le_of_ble_eq_true rfl) (k := ?_)
  refine mj_b_iload_n (hE := fe_108_48) (hv := rfl) (k := ?_)
  refine mj_b_if1 (hE := fe_108_49) (kt := fun g => ?_) (kf := fun g => ?_)
  · simp only [mj_cnd, Bool.not_eq_true', decide_eq_false_iff_not] at g
    refine mj_b_iconst (hE := fe_108_56) (k := ?_)
    refine mj_b_iload_n (hE := fe_108_57) (hv := rfl) (k := ?_)
    refine mj_b_imul (hE := fe_108_58) (k := ?_)
    refine mj_b_iconst (hE := fe_108_59) (k := ?_)
    refine mj_b_iadd (hE := fe_108_60) (k := ?_)
    exact p61 _ (by simp [a_due, g])
  · simp only [mj_cnd, Bool.not_eq_false', decide_eq_true_eq] at g
    refine mj_b_iconst (hE := fe_108_52) (k := ?_)
    refine mj_b_goto (hE := fe_108_53) (k := ?_)
    exact p61 _ (by simp [a_due, g])
end NA
