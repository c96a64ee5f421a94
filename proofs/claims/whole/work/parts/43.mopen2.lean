/-! ===== the model: open ===== -/
section MY
variable {L : Nat} {T : ty_st} {ts hs ms : List Int32} {f w : Int32} {I I' I0 : Nat → Nat → Int32} {R : Nat → Nat → Option Nat} {Q : Option Value × mj_H → Prop} {z : Int32 × Int32}
def m_opn (T : ty_st) (H : ty_hd) (p : Int32) (ok : Bool) : Int32 := if a_fstR T.1 T.2.1 H p ok = -1 then 0 else a_fstR T.1 T.2.1 H p ok
/-- what open leaves -/
def op_post (L : Nat) (T : ty_st) (H : ty_hd) (p : Int32) (ok : Bool) (f w : Int32) (I0 : Nat → Nat → Int32) (R : Nat → Nat → Option Nat) (r : Option Value × mj_H) : Prop :=
  ∃ I', r = (some (.int (m_opn T H p ok)), (mz_SH L, I', R)) ∧ fr_M I0 I' ∧ m_all T [] (-1) w [] I' ∧ I' 87 19 = f ∧ (a_fstR T.1 T.2.1 H p ok = -1 → md_rep 1 T I' ∧ sb_rep (tsof H.1) I')
theorem hd_gd_iff : (hd_gd z hs = false) ↔ ¬ ((hd_at z hs hs.length).2.2.2.1 = 0 ∨ (hd_at z hs hs.length).2.2.2.1 = 7) := by
  unfold hd_gd
  simp
set_option maxHeartbeats 4000000 in
/-- LockedTreeModel.open -/
theorem g93 (p : Int32) (ok : Bool) (hm : mm_ok R) (h : m_all T hs f w ms I) (hnt : ar_nd T.1) (hnl : al_nd T.2.1) (hnm : ∀ c ∈ hs, pf_named c = true) :
    mj_G pj_P 93 [.ref 87, .int (pz ok), .int p] (mz_SH L, I, R) (op_post L T (hd_at z hs hs.length) p ok f w I R) := by
  have hm0 := hm
  obtain ⟨q0, q1, q2, q3, q4, q5, q6, q7, q8, q9, q10, q11, q16, q21⟩ := hm
  have h87 := sm_87 L
  have h98 := sm_98 L
  obtain ⟨h1, ⟨h2, h3⟩, h4, h5, h6, ⟨h7, h8⟩, h9⟩ := h
  -- after the first three writes
  generalize hJ : mj_u (mj_u (mj_u I 87 22 0) 87 19 f) 87 18 (-1) = J
  have jM : fr_M I J := by rw [← hJ]; exact ((fr_M.u (by omega) (by omega)).trans (fr_M.u (by omega) (by omega))).trans (fr_M.u (by omega) (by omega))
  have joff : ∀ x j, x ≠ 87 → J x j = I x j := by intro x j hx; rw [← hJ]; simp [mj_u, hx]
  have j12 : J 87 12 = nI hs.length := by rw [← hJ]; simp [mj_u, h2]
  have j18 : J 87 18 = -1 := by rw [← hJ]; simp [mj_u]
  have j19 : J 87 19 = f := by rw [← hJ]; simp [mj_u]
  have j20 : J 87 20 = w := by rw [← hJ]; simp [mj_u, h6]
  have j22 : J 87 22 = 0 := by rw [← hJ]; simp [mj_u]
  have jrep : md_rep 0 T J := h1.eq (fun x j a b => joff x j (by omega))
  -- what stands at the end of a refusal, and before the copying
  have hall : ∀ K : Nat → Nat → Int32, fr_7 J K → m_all T [] (-1) w [] (mj_u K 87 12 0) ∧ mj_u K 87 12 0 87 19 = f ∧ fr_M I (mj_u K 87 12 0) := by
    intro K hK
    refine ⟨⟨(jrep.f7 hK).eq (fun x j a b => mj_u_na _ _ _ _ (by omega)), ⟨by simp [mj_u]; rfl, by simp⟩, by simp, ?_, ?_, ⟨?_, by simp⟩, by simp⟩, ?_, (jM.trans hK.M).trans (fr_M.u (by omega) (by omega))⟩
    · simp [mj_u]; rw [hK _ _ (by omega) (by omega)]; exact j18
    · simp [mj_u]; rw [hK _ _ (by omega) (by omega)]; exact j20
    · simp [mj_u]; rw [hK _ _ (by omega) (by omega)]; exact j22
    · simp [mj_u]; rw [hK _ _ (by omega) (by omega)]; exact j19
  have p58 : ∀ K : Nat → Nat → Int32, fr_7 J K → sb_rep (tsof (hd_at z hs hs.length).1) K → a_fstR T.1 T.2.1 (hd_at z hs hs.length) p ok = -1 → mj_T pj_P 93 58 [.ref 87, .int (pz ok), .int p, .retAddr 0] [] (mz_SH L, mj_u K 87 12 0, R) (op_post L T (hd_at z hs hs.length) p ok f w I R) := by
    intro K hK hsb hfst
    obtain ⟨k1, k2, k3⟩ := hall K hK
    have ksb : sb_rep (tsof (hd_at z hs hs.length).1) (mj_u K 87 12 0) := by
      obtain ⟨⟨s1, s2⟩, s3⟩ := hsb
      exact ⟨⟨by simp [mj_u, s1], s2⟩, fun i t hi => by rw [mj_u_na _ _ _ _ (by omega)]; exact s3 i t hi⟩
    generalize mj_u K 87 12 0 = N at k1 k2 k3 ksb ⊢
    have nrep := k1.1
    refine mj_b_iconst (hE := fe_93_58) (k := ?_)
    refine mj_b_istore_n (hE := fe_93_59) (hx := Nat.le_of_ble_eq_true rfl) (k := ?_)
    refine l93a (I0 := N) hm0 nrep ?_ T.1.length 0 N (by omega) fr_2.refl (fun _ _ _ => rfl) (fun j r hj => by omega)
    intro I1 v3 f1 o1 r1
    refine mj_b_iconst (hE := fe_93_85) (k := ?_)
    refine mj_b_istore_n (hE := fe_93_86) (hx := Nat.le_of_ble_eq_true rfl) (k := ?_)
    refine l93b (I0 := I1) hm0 (nrep.two f1) ?_ T.2.1.length 0 I1 (by omega) fr_2.refl (fun _ _ _ => rfl) (fun j r hj => by omega)
    intro I2 v3 f2 o2 r2
    have e98 : ∀ j, I2 98 j = N 98 j := fun j => by rw [o2 _ _ (by omega), o1 _ _ (by omega)]
    have st : ∀ (I3 : Nat → Nat → Int32) (i : Nat) (v : Int32) (Qq : Option Value × mj_H → Prop), i < 5 → I3 98 i = v → mj_T pj_P 93 114 [.ref 87, .int (pz ok), .int p, .int (nI (i + 1))] [] (mz_SH L, mj_u I3 98 (5 + i) v, R) Qq → mj_T pj_P 93 114 [.ref 87, .int (pz ok), .int p, .int (nI i)] [] (mz_SH L, I3, R) Qq := by
      intro I3 i v Qq hi hv hQ
      refine mj_b_iload_n (hE := fe_93_114) (hv := rfl) (k := ?_)
      refine mj_b_iconst (hE := fe_93_115) (k := ?_)
      refine mj_b_if2 (hE := fe_93_116) (kt := fun g => ?_) (kf := fun g => ?_)
      · simp only [mj_cnd, decide_eq_true_eq] at g
        exact absurd g (by rw [show (5 : Int32) = nI 5 from rfl, nI_le_iff (by omega) (by omega)]; omega)
      · refine mj_b_rload_n (hE := fe_93_119) (hv := rfl) (k := ?_)
        refine mj_b_getQ (hE := fe_93_120) (hM := by assumption) (hv := by assumption) (k := ?_)
        refine mj_b_iconst (hE := fe_93_123) (k := ?_)
        refine mj_b_iload_n (hE := fe_93_124) (hv := rfl) (k := ?_)
        refine mj_b_iadd (hE := fe_93_125) (k := ?_)
        refine mj_b_rload_n (hE := fe_93_126) (hv := rfl) (k := ?_)
        refine mj_b_getQ (hE := fe_93_127) (hM := by assumption) (hv := by assumption) (k := ?_)
        refine mj_b_iload_n (hE := fe_93_130) (hv := rfl) (k := ?_)
        refine mj_b_ialdN (hE := fe_93_131) (v := v) (hM := h98) (ht := Or.inr rfl) (hj := rfl) (hc := by omega) (hn := by decide) (hv := hv) (k := ?_)
        refine mj_b_iastN (hE := fe_93_132) (c := 5 + i) (hM := h98) (hj := by rw [← nI_add]; rfl) (hc := by omega) (hn := by decide) (k := ?_)
        refine mj_b_iinc (hE := fe_93_133) (hv := rfl) (k := ?_)
        refine mj_b_goto (hE := fe_93_136) (k := ?_)
        exact (show mj_T pj_P 93 114 [.ref 87, .int (pz ok), .int p, .int (nI i + 1)] [] (mz_SH L, mj_u I3 98 (5 + i) v, R) Qq from (nI_succ i) ▸ hQ)
    refine mj_b_iconst (hE := fe_93_112) (k := ?_)
    refine mj_b_istore_n (hE := fe_93_113) (hx := Nat.le_of_ble_eq_true rfl) (k := ?_)
    refine st I2 0 (I2 98 0) _ (by omega) rfl ?_
    refine st _ 1 (I2 98 1) _ (by omega) (by simp [mj_u]) ?_
    refine st _ 2 (I2 98 2) _ (by omega) (by simp [mj_u]) ?_
    refine st _ 3 (I2 98 3) _ (by omega) (by simp [mj_u]) ?_
    refine st _ 4 (I2 98 4) _ (by omega) (by simp [mj_u]) ?_
    refine mj_b_iload_n (hE := fe_93_114) (hv := rfl) (k := ?_)
    refine mj_b_iconst (hE := fe_93_115) (k := ?_)
    refine mj_b_if2 (hE := fe_93_116) (kt := fun g => ?_) (kf := fun g => ?_)
    · refine mj_b_iconst (hE := fe_93_139) (k := ?_)
      generalize hK3 : mj_u (mj_u (mj_u (mj_u (mj_u I2 98 (5 + 0) (I2 98 0)) 98 (5 + 1) (I2 98 1)) 98 (5 + 2) (I2 98 2)) 98 (5 + 3) (I2 98 3)) 98 (5 + 4) (I2 98 4) = K3
      have f3 : fr_2 I2 K3 := by
        rw [← hK3]
        exact ((((fr_2.u (by omega)).trans (fr_2.u (by omega))).trans (fr_2.u (by omega))).trans (fr_2.u (by omega))).trans (fr_2.u (by omega))
      have o3 : ∀ x j, x ≠ 98 → K3 x j = I2 x j := by intro x j hx; rw [← hK3]; simp [mj_u, hx]
      have k5 : K3 98 5 = I2 98 0 := by rw [← hK3]; simp [mj_u]
      have k6 : K3 98 6 = I2 98 1 := by rw [← hK3]; simp [mj_u]
      have k7 : K3 98 7 = I2 98 2 := by rw [← hK3]; simp [mj_u]
      have k8 : K3 98 8 = I2 98 3 := by rw [← hK3]; simp [mj_u]
      have k9 : K3 98 9 = I2 98 4 := by rw [← hK3]; simp [mj_u]
      have f123 : fr_2 N K3 := (f1.trans f2).trans f3
      refine mj_b_retI (hE := fe_93_140) (hi := in_93) ⟨K3, ?_, k3.trans f123.M, k1.two f123, ?_, fun _ => ⟨⟨Or.inr rfl, ⟨?_, nrep.2.1.2⟩, ⟨?_, nrep.2.2.1.2⟩, ?_, ?_, ?_, ?_, ?_⟩, ksb.two f123⟩⟩
      · unfold m_opn
        rw [if_pos hfst]
      · rw [f123 _ _ (by omega) (by omega) (by omega) (by omega)]; exact k2
      · simp only [Nat.mul_one]; rw [k5, e98]; exact nrep.2.1.1
      · simp only [Nat.mul_one, Nat.reduceAdd]; rw [k6, e98]; exact nrep.2.2.1.1
      · intro i r hi
        simp only [Nat.mul_one]
        exact (r1 i r hi).eq (fun x j a b => by rw [o3 _ _ (by omega), o2 _ _ (by omega)])
      · intro i l hi
        simp only [Nat.mul_one]
        exact (r2 i l hi).eq (fun x j a b => o3 _ _ (by omega))
      · simp only [Nat.mul_one, Nat.reduceAdd]; rw [k7, e98]; exact nrep.2.2.2.2.2.1
      · simp only [Nat.mul_one, Nat.reduceAdd]; rw [k8, e98]; exact nrep.2.2.2.2.2.2.1
      · simp only [Nat.mul_one, Nat.reduceAdd]; rw [k9, e98]; exact nrep.2.2.2.2.2.2.2
    · exact absurd g (by decide)
  have p43 : ∀ K : Nat → Nat → Int32, fr_7 J K → (ok = false ∨ hd_gd z hs = false) → ∀ Lc, mj_T pj_P 93 43 Lc [] (mz_SH L, mj_u K 87 12 0, R) (op_post L T (hd_at z hs hs.length) p ok f w I R) := by
    intro K hK hbad Lc
    obtain ⟨k1, k2, k3⟩ := hall K hK
    have e : a_fstR T.1 T.2.1 (hd_at z hs hs.length) p ok = 400 := by
      unfold a_fstR
      rw [if_pos]
      rcases hbad with hb | hb
      · exact Or.inl hb
      · exact Or.inr (hd_gd_iff.mp hb)
    refine mj_b_sipush (hE := fe_93_43) (k := ?_)
    refine mj_b_retI (hE := fe_93_46) (hi := in_93) ⟨_, ?_, k3, k1, k2, fun hx => by rw [e] at hx; exact absurd hx (by decide)⟩
    unfold m_opn
    rw [e, if_neg (by decide)]
  refine mj_enter in_93 (L := [.ref 87, .int (pz ok), .int p, .retAddr 0]) rfl ?_
  refine mj_b_rload_n (hE := fe_93_0) (hv := rfl) (k := ?_)
  refine mj_b_iconst (hE := fe_93_1) (k := ?_)
  refine mj_b_putI (hE := fe_93_2) (hw := Or.inl rfl) (hM := by assumption) (k := ?_)
  refine mj_b_rload_n (hE := fe_93_5) (hv := rfl) (k := ?_)
  refine mj_b_rload_n (hE := fe_93_6) (hv := rfl) (k := ?_)
  refine mj_b_getV (hE := fe_93_7) (v := f) (hM := h87) (hv := by simp [mj_u, h5]) (k := ?_)
  refine mj_b_putI (hE := fe_93_10) (hw := Or.inl rfl) (hM := by assumption) (k := ?_)
  refine mj_b_rload_n (hE := fe_93_13) (hv := rfl) (k := ?_)
  refine mj_b_iconst (hE := fe_93_14) (k := ?_)
  refine mj_b_putI (hE := fe_93_15) (hw := Or.inl rfl) (hM := by assumption) (k := ?_)
  rw [hJ]
  refine mj_b_iload_n (hE := fe_93_18) (hv := rfl) (k := ?_)
  refine mj_b_if1 (hE := fe_93_19) (kt := fun g => ?_) (kf := fun g => ?_)
  · simp only [mj_cnd, decide_eq_true_eq, pz_0] at g
    refine mj_b_rload_n (hE := fe_93_27) (hv := rfl) (k := ?_)
    refine mj_b_iconst (hE := fe_93_28) (k := ?_)
    refine mj_b_putI (hE := fe_93_29) (hw := Or.inl rfl) (hM := by assumption) (k := ?_)
    refine mj_b_iload_n (hE := fe_93_32) (hv := rfl) (k := ?_)
    refine mj_b_if1 (hE := fe_93_33) (kt := fun g2 => ?_) (kf := fun g2 => ?_)
    · exact p43 J fr_7.refl (Or.inl g) _
    · simp only [mj_cnd, decide_eq_false_iff_not, pz_0, Bool.not_eq_false] at g2
      rw [g] at g2
      cases g2
  · simp only [mj_cnd, decide_eq_false_iff_not, pz_0, Bool.not_eq_false] at g
    refine mj_b_rload_n (hE := fe_93_22) (hv := rfl) (k := ?_)
    refine mj_b_iload_n (hE := fe_93_23) (hv := rfl) (k := ?_)
    refine mj_b_call (hE := fe_93_24) (hi := in_94) (h1 := g94 (z := z) (hs := hs) (T := T) p hm0 ⟨j12, h3⟩ (fun i c hc => by rw [joff _ _ (by omega)]; exact h4 i c hc) jrep hnt hnl hnm) (hc := mj_cok_v rfl rfl h87) (ha := rfl) (hr := rfl) ?_
    rintro v' M1 ⟨K, hM, hK, k14, kgood⟩
    cases hM
    refine (show mj_T pj_P 93 27 [.ref 87, .int (pz ok), .int p, .retAddr 0] [] (mz_SH L, K, R) _ from ?_)
    refine mj_b_rload_n (hE := fe_93_27) (hv := rfl) (k := ?_)
    refine mj_b_iconst (hE := fe_93_28) (k := ?_)
    refine mj_b_putI (hE := fe_93_29) (hw := Or.inl rfl) (hM := by assumption) (k := ?_)
    refine mj_b_iload_n (hE := fe_93_32) (hv := rfl) (k := ?_)
    refine mj_b_if1 (hE := fe_93_33) (kt := fun g2 => ?_) (kf := fun g2 => ?_)
    · simp only [mj_cnd, decide_eq_true_eq, pz_0] at g2
      rw [g] at g2
      cases g2
    · refine mj_b_rload_n (hE := fe_93_36) (hv := rfl) (k := ?_)
      refine mj_b_getV (hE := fe_93_37) (v := pz (hd_gd z hs)) (hM := h87) (hv := by simp [mj_u, k14]) (k := ?_)
      refine mj_b_if1 (hE := fe_93_40) (kt := fun g3 => ?_) (kf := fun g3 => ?_)
      · simp only [mj_cnd, Bool.not_eq_true', decide_eq_false_iff_not, pz_0, Bool.not_eq_false] at g3
        obtain ⟨k15, ksb⟩ := kgood g3
        refine mj_b_rload_n (hE := fe_93_47) (hv := rfl) (k := ?_)
        refine mj_b_getV (hE := fe_93_48) (v := pz (a_hol (a_cnd T.1 T.2.1 p) (hd_at z hs hs.length).1 true 1)) (hM := h87) (hv := by simp [mj_u, k15]) (k := ?_)
        have e0 : ¬ (ok = false ∨ ¬ ((hd_at z hs hs.length).2.2.2.1 = 0 ∨ (hd_at z hs hs.length).2.2.2.1 = 7)) := by
          rintro (e | e)
          · rw [g] at e; cases e
          · rw [hd_gd_iff.mpr e] at g3; cases g3
        refine mj_b_if1 (hE := fe_93_51) (kt := fun g4 => ?_) (kf := fun g4 => ?_)
        · simp only [mj_cnd, Bool.not_eq_true', decide_eq_false_iff_not, pz_0, Bool.not_eq_false] at g4
          exact p58 K hK ksb (by unfold a_fstR; rw [if_neg e0, if_pos g4])
        · simp only [mj_cnd, Bool.not_eq_false', decide_eq_true_eq, pz_0] at g4
          have e : a_fstR T.1 T.2.1 (hd_at z hs hs.length) p ok = 412 := by unfold a_fstR; rw [if_neg e0, if_neg (by rw [g4]; decide)]
          obtain ⟨k1, k2, k3⟩ := hall K hK
          refine mj_b_sipush (hE := fe_93_54) (k := ?_)
          refine mj_b_retI (hE := fe_93_57) (hi := in_93) ⟨_, ?_, k3, k1, k2, fun hx => by rw [e] at hx; exact absurd hx (by decide)⟩
          unfold m_opn
          rw [e, if_neg (by decide)]
      · simp only [mj_cnd, Bool.not_eq_false', decide_eq_true_eq, pz_0] at g3
        exact p43 K hK (Or.inr g3) _
end MY
