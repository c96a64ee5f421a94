/-! ===== the model: mkcol, patch ===== -/
section ND
variable {L n : Nat} {S Sx : ty_st} {H : ty_hd} {rs : List ty_rw} {U : ty_st} {ts hs ms : List Int32} {f w : Int32} {I I' I0 I1 : Nat → Nat → Int32} {R : Nat → Nat → Option Nat} {Q : Option Value × mj_H → Prop} {z : Int32 × Int32}
/-- after open -/
def m_env (S : ty_st) (H : ty_hd) (f w : Int32) (rs : List ty_rw) (ts : List Int32) (I I1 : Nat → Nat → Int32) : Prop :=
  fr_M I I1 ∧ m_all (rs, S.2) [] (-1) w [] I1 ∧ I1 87 19 = f ∧ md_rep 1 (rs, S.2) I1 ∧ sb_rep ts I1 ∧ sb_of ts = a_sub H.1
theorem m_env.fnd (h : m_env S H f w rs ts I I1) (hm : mm_ok R) (hr : m_rel n S H f rs hs) (p : Int32) : mj_G pj_P 101 [.ref 87, .int p, .int 0] (mz_SH L, I1, R) (fun r => r = (some (.int (mv_ix 0 (ar_fi rs p))), (mz_SH L, I1, R))) := by
  have := g101' (L := L) (s := 0) p hm h.2.1.1 hr.ndT
  rw [Nat.mul_zero] at this
  exact this
theorem m_env.fnd1 (h : m_env S H f w rs ts I I1) (hm : mm_ok R) (hr : m_rel n S H f rs hs) (p : Int32) : mj_G pj_P 101 [.ref 87, .int p, .int 20] (mz_SH L, I1, R) (fun r => r = (some (.int (mv_ix 20 (ar_fi rs p))), (mz_SH L, I1, R))) := g101' (L := L) (s := 1) p hm h.2.2.2.1 hr.ndT
theorem m_rel.pos (hr : m_rel n S H f rs hs) (p : Int32) : (0 ≤ mv_ix 0 (ar_fi rs p)) ↔ ar_has S.1 p = true := by
  have h13 := hr.2.1.1.2.1
  have hl := hr.len
  have := m_pos (s := 0) (Or.inl rfl) (by omega) hr.1 p
  rw [Nat.mul_zero] at this
  exact this
theorem m_rel.neg (hr : m_rel n S H f rs hs) (p : Int32) : (mv_ix 0 (ar_fi rs p) < 0) ↔ ar_has S.1 p = false := by
  have h13 := hr.2.1.1.2.1
  have hl := hr.len
  have := m_neg (s := 0) (Or.inl rfl) (by omega) hr.1 p
  rw [Nat.mul_zero] at this
  exact this
theorem m_env.fol (h : m_env S H f w rs ts I I1) (hm : mm_ok R) (hr : m_rel n S H f rs hs) (q : Int32) : mj_G pj_P 104 [.ref 87, .int q] (mz_SH L, I1, R) (fun r => r = (some (.int (pz (a_coll S.1 q))), (mz_SH L, I1, R))) := by
  have := g104' (L := L) q hm h.2.1.1 hr.ndT
  dsimp only at this
  rwa [a_coll_perm hr.1 hr.nd] at this
theorem m_env.bar (h : m_env S H f w rs ts I I1) (hm : mm_ok R) (q : Int32) : mj_G pj_P 105 [.ref 87, .int q] (mz_SH L, I1, R) (fun r => r = (some (.int (pz (a_bar S.2.1 (a_sub H.1) q))), (mz_SH L, I1, R))) := by
  have := g105' (L := L) q hm h.2.1.1 h.2.2.2.2.1
  rwa [h.2.2.2.2.2] at this
theorem m_env.n0 (h : m_env S H f w rs ts I I1) (hr : m_rel n S H f rs hs) : I1 98 0 = nI S.1.length := by
  have := h.2.1.1.2.1.1
  rw [Nat.mul_zero] at this
  rw [this]
  dsimp only
  rw [hr.len]
theorem m_env.n1 (h : m_env S H f w rs ts I I1) : I1 98 1 = nI S.2.1.length := by
  have := h.2.1.1.2.2.1.1
  rw [Nat.mul_zero, Nat.zero_add] at this
  exact this
/-- carrying out, when the second side is U -/
theorem m_env.car {I2 : Nat → Nat → Int32} {st : Int32} (h : m_env S H f w rs ts I I1) (hm : mm_ok R) (hr : m_rel n S H f rs hs) {n2 : Nat} (hn2 : n ≤ n2) (f2 : fr_2 I1 I2) (hu : md_rep 1 U I2) (hx : wf_pre n2 Sx) (hU : U.1.Perm Sx.1) (hUl : (m_fin U).2 = (a_fin Sx).2) (hst : st ≠ 207) :
    mj_G pj_P 108 [.ref 87, .int st] (mz_SH L, I2, R) (mo_post L I R (o_car S f w ms Sx st)) :=
  g108S (n := n2) (H := H) (hs := hs) hm ⟨hr.1, hr.2.1.mono hn2, hr.2.2⟩ (h.2.1.two f2) (h.1.trans f2.M) (by rw [f2 _ _ (by omega) (by omega) (by omega) (by omega)]; exact h.2.2.1) hu hx hU hUl hst
set_option maxHeartbeats 4000000 in
/-- LockedTreeModel.mkcol -/
theorem g112 (p : Int32) (hm : mm_ok R) (h : m_all (rs, S.2) hs f w ms I) (hr : m_rel n S H f rs hs) :
    mj_G pj_P 112 [.ref 87, .int p] (mz_SH L, I, R) (mo_post L I R (o_mk S H f w ms p)) := by
  have hm0 := hm
  obtain ⟨q0, q1, q2, q3, q4, q5, q6, q7, q8, q9, q10, q11, q16, q21⟩ := hm
  have h87 := sm_87 L
  have h98 := sm_98 L
  have h13 := hr.2.1.1.2.1
  have hlen := hr.len
  refine mj_enter in_112 (L := [.ref 87, .int p, .retAddr 0]) rfl ?_
  refine mj_b_rload_n (hE := fe_112_0) (hv := rfl) (k := ?_)
  refine mj_b_iload_n (hE := fe_112_1) (hv := rfl) (k := ?_)
  refine mj_b_callR (hE := fe_112_2) (hi := in_92) (h1 := g92 _ _) (hc := mj_cok_s rfl) (ha := rfl) (hr := rfl) ?_
  refine mj_b_iload_n (hE := fe_112_5) (hv := rfl) (k := ?_)
  refine mj_b_call (hE := fe_112_6) (hi := in_93) (h1 := g93S p (pf_path p) hm0 h hr) (hc := mj_cok_v rfl rfl h87) (ha := rfl) (hr := rfl) ?_
  rintro v' M1 ⟨I1, hM, fM, hall, hb, hop⟩
  cases hM
  have hrf : ∀ c, a_two (a_fstR S.1 S.2.1 H p (pf_path p)) (a_mkR S.1 S.2.1 (a_sub H.1) p) = c → c ≠ -1 → c ≠ 207 → mo_post L I R (o_mk S H f w ms p) (some (.int c), (mz_SH L, I1, R)) := by
    intro c hc h1 h2
    have e : o_mk S H f w ms p = o_ref S w ms c := by unfold o_mk o_ans; rw [hc, if_neg h1]
    rw [e]
    exact mo_ref hr hall fM h2
  rcases a_fst_cases S H p (pf_path p) with e | e | e
  · have hrf2 : ∀ c, a_mkR S.1 S.2.1 (a_sub H.1) p = c → c ≠ -1 → c ≠ 207 → mo_post L I R (o_mk S H f w ms p) (some (.int c), (mz_SH L, I1, R)) := fun c hc h1 h2 => hrf c (by unfold a_two; rw [if_pos e]; exact hc) h1 h2
    obtain ⟨hu, ts, hsb, hsub⟩ := hop e
    have hen : m_env S H f w rs ts I I1 := ⟨fM, hall, hb, hu, hsb, hsub⟩
    have hpp : pf_path p = true := a_fstR_ok e
    have n0 := hen.n0 hr
    have hneg := hr.neg p
    rw [e, if_pos rfl]
    refine (show mj_T pj_P 112 9 [.ref 87, .int p, .retAddr 0] [.int 0] (mz_SH L, I1, R) _ from ?_)
    refine mj_b_istore_n (hE := fe_112_9) (hx := Nat.le_of_ble_eq_true rfl) (k := ?_)
    refine mj_b_iload_n (hE := fe_112_10) (hv := rfl) (k := ?_)
    refine mj_b_if1 (hE := fe_112_11) (kt := fun g => ?_) (kf := fun g => absurd g (by decide))
    refine mj_b_rload_n (hE := fe_112_16) (hv := rfl) (k := ?_)
    refine mj_b_iload_n (hE := fe_112_17) (hv := rfl) (k := ?_)
    refine mj_b_iconst (hE := fe_112_18) (k := ?_)
    refine mj_b_callR (hE := fe_112_19) (hi := in_101) (h1 := hen.fnd hm0 hr p) (hc := mj_cok_v rfl rfl h87) (ha := rfl) (hr := rfl) ?_
    refine mj_b_if1 (hE := fe_112_22) (kt := fun k1 => ?_) (kf := fun k1 => ?_)
    · simp only [mj_cnd, decide_eq_true_eq] at k1
      rw [hneg] at k1
      refine mj_b_rload_n (hE := fe_112_29) (hv := rfl) (k := ?_)
      refine mj_b_iload_n (hE := fe_112_30) (hv := rfl) (k := ?_)
      refine mj_b_bipush (hE := fe_112_31) (k := ?_)
      refine mj_b_idiv (hE := fe_112_33) (hb := by decide) (k := ?_)
      refine mj_b_callR (hE := fe_112_34) (hi := in_104) (h1 := hen.fol hm0 hr (p / 8)) (hc := mj_cok_v rfl rfl h87) (ha := rfl) (hr := rfl) ?_
      refine mj_b_if1 (hE := fe_112_37) (kt := fun k2 => ?_) (kf := fun k2 => ?_)
      · simp only [mj_cnd, Bool.not_eq_true', decide_eq_false_iff_not, pz_0, Bool.not_eq_false] at k2
        have p63 : (a_bar S.2.1 (a_sub H.1) p = true ∨ a_bar S.2.1 (a_sub H.1) (p / 8) = true) → ∀ Lc, mj_T pj_P 112 63 Lc [] (mz_SH L, I1, R) (mo_post L I R (o_mk S H f w ms p)) := by
          intro hbar Lc
          refine mj_b_sipush (hE := fe_112_63) (k := ?_)
          exact mj_b_retI (hE := fe_112_66) (hi := in_112) (hrf2 423 (by unfold a_mkR; rw [if_neg (by rw [k1]; decide), if_neg (by rw [k2]; decide), if_pos hbar]) (by decide) (by decide))
        refine mj_b_rload_n (hE := fe_112_44) (hv := rfl) (k := ?_)
        refine mj_b_iload_n (hE := fe_112_45) (hv := rfl) (k := ?_)
        refine mj_b_callR (hE := fe_112_46) (hi := in_105) (h1 := hen.bar hm0 p) (hc := mj_cok_v rfl rfl h87) (ha := rfl) (hr := rfl) ?_
        refine mj_b_if1 (hE := fe_112_49) (kt := fun k3 => ?_) (kf := fun k3 => ?_)
        · simp only [mj_cnd, Bool.not_eq_true', decide_eq_false_iff_not, pz_0, Bool.not_eq_false] at k3
          exact p63 (Or.inl k3) _
        · simp only [mj_cnd, Bool.not_eq_false', decide_eq_true_eq, pz_0] at k3
          refine mj_b_rload_n (hE := fe_112_52) (hv := rfl) (k := ?_)
          refine mj_b_iload_n (hE := fe_112_53) (hv := rfl) (k := ?_)
          refine mj_b_bipush (hE := fe_112_54) (k := ?_)
          refine mj_b_idiv (hE := fe_112_56) (hb := by decide) (k := ?_)
          refine mj_b_callR (hE := fe_112_57) (hi := in_105) (h1 := hen.bar hm0 (p / 8)) (hc := mj_cok_v rfl rfl h87) (ha := rfl) (hr := rfl) ?_
          refine mj_b_if1 (hE := fe_112_60) (kt := fun k4 => ?_) (kf := fun k4 => ?_)
          · simp only [mj_cnd, decide_eq_true_eq, pz_0] at k4
            have hbar : ¬ (a_bar S.2.1 (a_sub H.1) p = true ∨ a_bar S.2.1 (a_sub H.1) (p / 8) = true) := by rw [k3, k4]; simp
            refine mj_b_rload_n (hE := fe_112_67) (hv := rfl) (k := ?_)
            refine mj_b_getQ (hE := fe_112_68) (hM := by assumption) (hv := by assumption) (k := ?_)
            refine mj_b_iconst (hE := fe_112_71) (k := ?_)
            refine mj_b_ialdN (hE := fe_112_72) (c := 0) (hM := by assumption) (ht := Or.inr rfl) (hj := rfl) (hc := by decide) (hn := by decide) (hv := by first | assumption | rfl) (k := ?_)
            refine mj_b_bipush (hE := fe_112_73) (k := ?_)
            refine mj_b_if2 (hE := fe_112_75) (kt := fun k5 => ?_) (kf := fun k5 => ?_)
            · simp only [mj_cnd, decide_eq_true_eq] at k5
              rw [show (13 : Int32) = nI 13 from rfl, nI_lt_iff (by omega) (by omega)] at k5
              have hok2 : a_mkR S.1 S.2.1 (a_sub H.1) p = -1 := by
                unfold a_mkR
                rw [if_neg (by rw [k1]; decide), if_neg (by rw [k2]; decide), if_neg hbar, if_neg (by omega)]
              have hcar : o_mk S H f w ms p = o_car S f w ms (x_mk S p) 201 := by
                unfold o_mk o_ans a_two
                rw [if_pos e, if_pos hok2]
              rw [hcar]
              refine mj_b_rload_n (hE := fe_112_82) (hv := rfl) (k := ?_)
              refine mj_b_iload_n (hE := fe_112_83) (hv := rfl) (k := ?_)
              refine mj_b_iconst (hE := fe_112_84) (k := ?_)
              refine mj_b_iconst (hE := fe_112_85) (k := ?_)
              refine mj_b_call (hE := fe_112_86) (hi := in_107) (h1 := g107 p true 0 hm0 hu (by dsimp only; rw [hlen]; exact k5)) (hc := mj_cok_v rfl rfl h87) (ha := rfl) (hr := rfl) ?_
              rintro v' M1 ⟨I2, hM, hu2, f2⟩
              cases hM
              refine (show mj_T pj_P 112 89 [.ref 87, .int p, .int 0] [] (mz_SH L, I2, R) _ from ?_)
              have hxp : (rs ++ [(p, 2, 0, S.2.2.2.1, 0, 0, 0)]).Perm (x_mk S p).1 := ((List.perm_append_singleton _ _).trans (List.Perm.cons _ hr.1)).trans (ar_ins_perm _ _).symm
              refine mj_b_rload_n (hE := fe_112_89) (hv := rfl) (k := ?_)
              refine mj_b_sipush (hE := fe_112_90) (k := ?_)
              refine mj_b_call (hE := fe_112_93) (hi := in_108) (h1 := hen.car (ms := ms) (Sx := x_mk S p) hm0 hr (Nat.le_refl _) f2 hu2 (wf_mk hr.2.1.pre hpp k1 k5) hxp (fin_same hxp rfl hr.live) (by decide)) (hc := mj_cok_v rfl rfl h87) (ha := rfl) (hr := rfl) ?_
              intro v' M2 hpo
              obtain ⟨I3, rs2, hM, hrest⟩ := id hpo
              cases hM
              exact mj_b_retI (hE := fe_112_96) (hi := in_112) hpo
            · simp only [mj_cnd, decide_eq_false_iff_not] at k5
              rw [show (13 : Int32) = nI 13 from rfl, nI_lt_iff (by omega) (by omega)] at k5
              refine mj_b_sipush (hE := fe_112_78) (k := ?_)
              exact mj_b_retI (hE := fe_112_81) (hi := in_112) (hrf2 507 (by unfold a_mkR; rw [if_neg (by rw [k1]; decide), if_neg (by rw [k2]; decide), if_neg hbar, if_pos (by omega)]) (by decide) (by decide))
          · simp only [mj_cnd, decide_eq_false_iff_not, pz_0, Bool.not_eq_false] at k4
            exact p63 (Or.inr k4) _
      · simp only [mj_cnd, Bool.not_eq_false', decide_eq_true_eq, pz_0] at k2
        refine mj_b_sipush (hE := fe_112_40) (k := ?_)
        exact mj_b_retI (hE := fe_112_43) (hi := in_112) (hrf2 409 (by unfold a_mkR; rw [if_neg (by rw [k1]; decide), if_pos k2]) (by decide) (by decide))
    · simp only [mj_cnd, decide_eq_false_iff_not] at k1
      rw [hneg, Bool.not_eq_false] at k1
      refine mj_b_sipush (hE := fe_112_25) (k := ?_)
      exact mj_b_retI (hE := fe_112_28) (hi := in_112) (hrf2 405 (by unfold a_mkR; rw [if_pos k1]) (by decide) (by decide))
  all_goals
    rw [e, if_neg (by decide)]
    refine mj_b_istore_n (hE := fe_112_9) (hx := Nat.le_of_ble_eq_true rfl) (k := ?_)
    refine mj_b_iload_n (hE := fe_112_10) (hv := rfl) (k := ?_)
    refine mj_b_if1 (hE := fe_112_11) (kt := fun g => absurd g (by decide)) (kf := fun g => ?_)
    refine mj_b_iload_n (hE := fe_112_14) (hv := rfl) (k := ?_)
    exact mj_b_retI (hE := fe_112_15) (hi := in_112) (hrf _ (by unfold a_two; rw [e, if_neg (by decide)]) (by decide) (by decide))
/-- a property of a row of the second side changes -/
theorem md_rep.prop {j : Nat} {r : ty_rw} (h : md_rep 1 U I) (hj : U.1[j]? = some r) {k : Int32} (hk : k = 0 ∨ k = 1 ∨ k = 2) (v : Int32) : md_rep 1 (U.1.set j (rw_prp k v r), U.2) (mj_u I 92 (3 * (20 + j) + k.toNatClampNeg) v) ∧ fr_2 I (mj_u I 92 (3 * (20 + j) + k.toNatClampNeg) v) := by
  obtain ⟨h0, ⟨a1, a2⟩, ⟨b1, b2⟩, hr, hl, c1, c2, c3⟩ := h
  simp only [Nat.mul_one, Nat.reduceAdd] at a1 b1 hr hl c1 c2 c3
  have hjl := (List.getElem?_eq_some_iff.mp hj).1
  have hk2 : k.toNatClampNeg < 3 := by rcases hk with rfl | rfl | rfl <;> decide
  refine ⟨⟨h0, ⟨?_, by simpa using a2⟩, ⟨?_, b2⟩, ?_, ?_, ?_, ?_, ?_⟩, ?_⟩
  · simp [mj_u, a1]
  · simp [mj_u, b1]
  · intro i q hi
    simp only [Nat.mul_one]
    dsimp only at hi
    rw [List.getElem?_set] at hi
    by_cases hij : j = i
    · subst hij
      simp [hjl] at hi
      obtain ⟨k0, k1, k2, k3, k4, k5, k6⟩ := hr j r hj
      rw [← hi]
      rcases hk with rfl | rfl | rfl
      · exact ⟨by simp [mj_u, k0, rw_prp], by simp [mj_u, k1, rw_prp], by simp [mj_u, k2, rw_prp], by simp [mj_u, k3, rw_prp], by simp [mj_u, rw_prp, show (0 : Int32).toNatClampNeg = 0 from rfl], by simp [mj_u, k5, rw_prp, show (0 : Int32).toNatClampNeg = 0 from rfl], by simp [mj_u, k6, rw_prp, show (0 : Int32).toNatClampNeg = 0 from rfl]⟩
      · exact ⟨by simp [mj_u, k0, rw_prp], by simp [mj_u, k1, rw_prp], by simp [mj_u, k2, rw_prp], by simp [mj_u, k3, rw_prp], by simp [mj_u, k4, rw_prp, show (1 : Int32).toNatClampNeg = 1 from rfl], by simp [mj_u, rw_prp, show (1 : Int32).toNatClampNeg = 1 from rfl], by simp [mj_u, k6, rw_prp, show (1 : Int32).toNatClampNeg = 1 from rfl]⟩
      · exact ⟨by simp [mj_u, k0, rw_prp], by simp [mj_u, k1, rw_prp], by simp [mj_u, k2, rw_prp], by simp [mj_u, k3, rw_prp], by simp [mj_u, k4, rw_prp, show (2 : Int32).toNatClampNeg = 2 from rfl], by simp [mj_u, k5, rw_prp, show (2 : Int32).toNatClampNeg = 2 from rfl], by simp [mj_u, rw_prp, show (2 : Int32).toNatClampNeg = 2 from rfl]⟩
    · simp [hij] at hi
      obtain ⟨k0, k1, k2, k3, k4, k5, k6⟩ := hr i q hi
      refine ⟨by simp [mj_u, k0], by simp [mj_u, k1], by simp [mj_u, k2], by simp [mj_u, k3], ?_, ?_, ?_⟩
      · have : ¬ 3 * (20 + i) = 3 * (20 + j) + k.toNatClampNeg := by omega
        simp only [mj_u, this, and_false, if_false]; exact k4
      · have : ¬ 3 * (20 + i) + 1 = 3 * (20 + j) + k.toNatClampNeg := by omega
        simp only [mj_u, this, and_false, if_false]; exact k5
      · have : ¬ 3 * (20 + i) + 2 = 3 * (20 + j) + k.toNatClampNeg := by omega
        simp only [mj_u, this, and_false, if_false]; exact k6
  · intro i l hi
    simp only [Nat.mul_one]
    exact (hl i l hi).eq (fun x k h1 h2 => mj_u_na _ _ _ _ (by omega))
  · simp [mj_u, c1]
  · simp [mj_u, c2]
  · simp [mj_u, c3]
  · intro x y h1 h2 h3 h4
    have e1 : ¬ (x = 92 ∧ y = 3 * (20 + j) + k.toNatClampNeg) := by omega
    simp only [mj_u, e1, if_false]
set_option maxHeartbeats 4000000 in
/-- LockedTreeModel.patch -/
theorem g125 (p k v : Int32) (hm : mm_ok R) (h : m_all (rs, S.2) hs f w ms I) (hr : m_rel n S H f rs hs) :
    mj_G pj_P 125 [.ref 87, .int p, .int k, .int v] (mz_SH L, I, R) (mo_post L I R (o_pat S H f w ms p k v)) := by
  have hm0 := hm
  obtain ⟨q0, q1, q2, q3, q4, q5, q6, q7, q8, q9, q10, q11, q16, q21⟩ := hm
  have h87 := sm_87 L
  have h92 := sm_92 L
  have h98 := sm_98 L
  have h13 := hr.2.1.1.2.1
  have hlen := hr.len
  have p33 : ∀ ok : Bool, ok = (pf_path p && (pf_from k 0 2 && pf_from v 0 999)) → mj_T pj_P 125 33 [.ref 87, .int p, .int k, .int v, .retAddr 0] [.int (pz ok), .ref 87] (mz_SH L, I, R) (mo_post L I R (o_pat S H f w ms p k v)) := by
    intro ok hok
    refine mj_b_iload_n (hE := fe_125_33) (hv := rfl) (k := ?_)
    refine mj_b_call (hE := fe_125_34) (hi := in_93) (h1 := g93S p ok hm0 h hr) (hc := mj_cok_v rfl rfl h87) (ha := rfl) (hr := rfl) ?_
    rintro v' M1 ⟨I1, hM, fM, hall, hb, hop⟩
    cases hM
    have hrf : ∀ c, a_two (a_fstR S.1 S.2.1 H p ok) (a_patR S.1 S.2.1 (a_sub H.1) p) = c → c ≠ -1 → c ≠ 207 → mo_post L I R (o_pat S H f w ms p k v) (some (.int c), (mz_SH L, I1, R)) := by
      intro c hc h1 h2
      have e : o_pat S H f w ms p k v = o_ref S w ms c := by unfold o_pat o_ans; rw [← hok, hc, if_neg h1]
      rw [e]
      exact mo_ref hr hall fM h2
    rcases a_fst_cases S H p ok with e | e | e
    · have hrf2 : ∀ c, a_patR S.1 S.2.1 (a_sub H.1) p = c → c ≠ -1 → c ≠ 207 → mo_post L I R (o_pat S H f w ms p k v) (some (.int c), (mz_SH L, I1, R)) := fun c hc h1 h2 => hrf c (by unfold a_two; rw [if_pos e]; exact hc) h1 h2
      obtain ⟨hu, ts, hsb, hsub⟩ := hop e
      have hen : m_env S H f w rs ts I I1 := ⟨fM, hall, hb, hu, hsb, hsub⟩
      have hok3 := a_fstR_ok e
      rw [hok] at hok3
      simp only [Bool.and_eq_true] at hok3
      have hk := pf_from_02 hok3.2.1
      have hpos := hr.pos p
      rw [e, if_pos rfl]
      refine (show mj_T pj_P 125 37 [.ref 87, .int p, .int k, .int v, .retAddr 0] [.int 0] (mz_SH L, I1, R) _ from ?_)
      refine mj_b_istore (hE := fe_125_37) (hx := Nat.le_of_ble_eq_true rfl) (k := ?_)
      refine mj_b_iload (hE := fe_125_39) (hv := rfl) (k := ?_)
      refine mj_b_if1 (hE := fe_125_41) (kt := fun g => ?_) (kf := fun g => absurd g (by decide))
      refine mj_b_rload_n (hE := fe_125_47) (hv := rfl) (k := ?_)
      refine mj_b_iload_n (hE := fe_125_48) (hv := rfl) (k := ?_)
      refine mj_b_iconst (hE := fe_125_49) (k := ?_)
      refine mj_b_callR (hE := fe_125_50) (hi := in_101) (h1 := hen.fnd hm0 hr p) (hc := mj_cok_v rfl rfl h87) (ha := rfl) (hr := rfl) ?_
      refine mj_b_if1 (hE := fe_125_53) (kt := fun k1 => ?_) (kf := fun k1 => ?_)
      · simp only [mj_cnd, decide_eq_true_eq] at k1
        rw [hpos] at k1
        refine mj_b_rload_n (hE := fe_125_60) (hv := rfl) (k := ?_)
        refine mj_b_iload_n (hE := fe_125_61) (hv := rfl) (k := ?_)
        refine mj_b_callR (hE := fe_125_62) (hi := in_105) (h1 := hen.bar hm0 p) (hc := mj_cok_v rfl rfl h87) (ha := rfl) (hr := rfl) ?_
        refine mj_b_if1 (hE := fe_125_65) (kt := fun k2 => ?_) (kf := fun k2 => ?_)
        · simp only [mj_cnd, decide_eq_true_eq, pz_0] at k2
          have hok2 : a_patR S.1 S.2.1 (a_sub H.1) p = -1 := by
            unfold a_patR
            rw [if_neg (by rw [k1]; decide), if_neg (by rw [k2]; decide)]
          have hcar : o_pat S H f w ms p k v = o_car S f w ms (x_pat S p k v) 200 := by
            unfold o_pat o_ans a_two
            rw [← hok, if_pos e, if_pos hok2]
          rw [hcar]
          have hhr : ar_has rs p = true := by rw [ar_has_perm hr.1]; exact k1
          have hfs := ar_fi_has rs p
          rw [hhr] at hfs
          obtain ⟨j, hj⟩ := Option.isSome_iff_exists.mp hfs
          obtain ⟨r, hjr, hrp⟩ := ar_fi_some hj
          have hjl := (List.getElem?_eq_some_iff.mp hjr).1
          have g1 := hen.fnd1 (L := L) hm0 hr p
          rw [hj] at g1
          obtain ⟨hb1, hb2⟩ := hu.prop (j := j) (r := r) hjr hk v
          have hidx : (3 : Int32) * nI (20 + j) + k = nI (3 * (20 + j) + k.toNatClampNeg) := by
            rw [show (3 : Int32) = nI 3 from rfl, mi_mul]
            rcases hk with rfl | rfl | rfl <;> (rw [← nI_add]; rfl)
          have hklt : k.toNatClampNeg < 3 := by rcases hk with rfl | rfl | rfl <;> decide
          have hxp : (rs.set j (rw_prp k v r)).Perm (x_pat S p k v).1 := by
            rw [ar_upd_set rs j r hr.ndT hjr hrp]
            exact ar_upd_perm hr.1
          refine mj_b_rload_n (hE := fe_125_72) (hv := rfl) (k := ?_)
          refine mj_b_getQ (hE := fe_125_73) (hM := by assumption) (hv := by assumption) (k := ?_)
          refine mj_b_iconst (hE := fe_125_76) (k := ?_)
          refine mj_b_rload_n (hE := fe_125_77) (hv := rfl) (k := ?_)
          refine mj_b_iload_n (hE := fe_125_78) (hv := rfl) (k := ?_)
          refine mj_b_bipush (hE := fe_125_79) (k := ?_)
          refine mj_b_callR (hE := fe_125_81) (hi := in_101) (h1 := g1) (hc := mj_cok_v rfl rfl h87) (ha := rfl) (hr := rfl) ?_
          refine (show mj_T pj_P 125 84 _ [.int (nI (20 + j)), .int 3, .ref 92] _ _ from ?_)
          refine mj_b_imul (hE := fe_125_84) (k := ?_)
          refine mj_b_iload_n (hE := fe_125_85) (hv := rfl) (k := ?_)
          refine mj_b_iadd (hE := fe_125_86) (k := ?_)
          refine mj_b_iload_n (hE := fe_125_87) (hv := rfl) (k := ?_)
          refine mj_b_iastN (hE := fe_125_88) (c := 3 * (20 + j) + k.toNatClampNeg) (hM := h92) (hj := hidx) (hc := by omega) (hn := by decide) (k := ?_)
          refine mj_b_rload_n (hE := fe_125_89) (hv := rfl) (k := ?_)
          refine mj_b_sipush (hE := fe_125_90) (k := ?_)
          refine mj_b_call (hE := fe_125_93) (hi := in_108) (h1 := hen.car (ms := ms) (Sx := x_pat S p k v) hm0 hr (Nat.le_refl _) hb2 hb1 (wf_pat hr.2.1.pre p k v) hxp (fin_same hxp rfl hr.live) (by decide)) (hc := mj_cok_v rfl rfl h87) (ha := rfl) (hr := rfl) ?_
          intro v' M2 hpo
          obtain ⟨I3, rs2, hM, hrest⟩ := id hpo
          cases hM
          exact mj_b_retI (hE := fe_125_96) (hi := in_125) hpo
        · simp only [mj_cnd, decide_eq_false_iff_not, pz_0, Bool.not_eq_false] at k2
          refine mj_b_sipush (hE := fe_125_68) (k := ?_)
          exact mj_b_retI (hE := fe_125_71) (hi := in_125) (hrf2 423 (by unfold a_patR; rw [if_neg (by rw [k1]; decide), if_pos k2]) (by decide) (by decide))
      · simp only [mj_cnd, decide_eq_false_iff_not] at k1
        rw [hpos, Bool.not_eq_true] at k1
        refine mj_b_sipush (hE := fe_125_56) (k := ?_)
        exact mj_b_retI (hE := fe_125_59) (hi := in_125) (hrf2 404 (by unfold a_patR; rw [if_pos k1]) (by decide) (by decide))
    all_goals
      rw [e, if_neg (by decide)]
      refine mj_b_istore (hE := fe_125_37) (hx := Nat.le_of_ble_eq_true rfl) (k := ?_)
      refine mj_b_iload (hE := fe_125_39) (hv := rfl) (k := ?_)
      refine mj_b_if1 (hE := fe_125_41) (kt := fun g => absurd g (by decide)) (kf := fun g => ?_)
      refine mj_b_iload (hE := fe_125_44) (hv := rfl) (k := ?_)
      exact mj_b_retI (hE := fe_125_46) (hi := in_125) (hrf _ (by unfold a_two; rw [e, if_neg (by decide)]) (by decide) (by decide))
  refine mj_enter in_125 (L := [.ref 87, .int p, .int k, .int v, .retAddr 0]) rfl ?_
  refine mj_b_rload_n (hE := fe_125_0) (hv := rfl) (k := ?_)
  refine mj_b_iload_n (hE := fe_125_1) (hv := rfl) (k := ?_)
  refine mj_b_callR (hE := fe_125_2) (hi := in_92) (h1 := g92 _ _) (hc := mj_cok_s rfl) (ha := rfl) (hr := rfl) ?_
  refine mj_b_if1 (hE := fe_125_5) (kt := fun h5 => ?_) (kf := fun h5 => ?_)
  · simp only [mj_cnd, decide_eq_true_eq, decide_eq_false_iff_not, Bool.not_eq_true', Bool.not_eq_false', pz_0, Bool.not_eq_false, Bool.not_eq_true] at h5
    refine mj_b_iconst (hE := fe_125_32) (k := ?_)
    exact p33 false (by simp [pf_from, h5])
  · simp only [mj_cnd, decide_eq_true_eq, decide_eq_false_iff_not, Bool.not_eq_true', Bool.not_eq_false', pz_0, Bool.not_eq_false, Bool.not_eq_true] at h5
    refine mj_b_iload_n (hE := fe_125_8) (hv := rfl) (k := ?_)
    refine mj_b_if1 (hE := fe_125_9) (kt := fun h9 => ?_) (kf := fun h9 => ?_)
    · simp only [mj_cnd, decide_eq_true_eq, decide_eq_false_iff_not, Bool.not_eq_true', Bool.not_eq_false', pz_0, Bool.not_eq_false, Bool.not_eq_true] at h9
      refine mj_b_iconst (hE := fe_125_32) (k := ?_)
      exact p33 false (by simp [pf_from, h5, h9])
    · simp only [mj_cnd, decide_eq_true_eq, decide_eq_false_iff_not, Bool.not_eq_true', Bool.not_eq_false', pz_0, Bool.not_eq_false, Bool.not_eq_true] at h9
      refine mj_b_iload_n (hE := fe_125_12) (hv := rfl) (k := ?_)
      refine mj_b_iconst (hE := fe_125_13) (k := ?_)
      refine mj_b_if2 (hE := fe_125_14) (kt := fun h14 => ?_) (kf := fun h14 => ?_)
      · simp only [mj_cnd, decide_eq_true_eq, decide_eq_false_iff_not, Bool.not_eq_true', Bool.not_eq_false', pz_0, Bool.not_eq_false, Bool.not_eq_true] at h14
        refine mj_b_iconst (hE := fe_125_32) (k := ?_)
        exact p33 false (by simp [pf_from, h5, h9, h14])
      · simp only [mj_cnd, decide_eq_true_eq, decide_eq_false_iff_not, Bool.not_eq_true', Bool.not_eq_false', pz_0, Bool.not_eq_false, Bool.not_eq_true] at h14
        refine mj_b_iload_n (hE := fe_125_17) (hv := rfl) (k := ?_)
        refine mj_b_if1 (hE := fe_125_18) (kt := fun h18 => ?_) (kf := fun h18 => ?_)
        · simp only [mj_cnd, decide_eq_true_eq, decide_eq_false_iff_not, Bool.not_eq_true', Bool.not_eq_false', pz_0, Bool.not_eq_false, Bool.not_eq_true] at h18
          refine mj_b_iconst (hE := fe_125_32) (k := ?_)
          exact p33 false (by simp [pf_from, h5, h9, h14, h18])
        · simp only [mj_cnd, decide_eq_true_eq, decide_eq_false_iff_not, Bool.not_eq_true', Bool.not_eq_false', pz_0, Bool.not_eq_false, Bool.not_eq_true] at h18
          refine mj_b_iload_n (hE := fe_125_21) (hv := rfl) (k := ?_)
          refine mj_b_sipush (hE := fe_125_22) (k := ?_)
          refine mj_b_if2 (hE := fe_125_25) (kt := fun h25 => ?_) (kf := fun h25 => ?_)
          · simp only [mj_cnd, decide_eq_true_eq, decide_eq_false_iff_not, Bool.not_eq_true', Bool.not_eq_false', pz_0, Bool.not_eq_false, Bool.not_eq_true] at h25
            refine mj_b_iconst (hE := fe_125_32) (k := ?_)
            exact p33 false (by simp [pf_from, h5, h9, h14, h18, h25])
          · simp only [mj_cnd, decide_eq_true_eq, decide_eq_false_iff_not, Bool.not_eq_true', Bool.not_eq_false', pz_0, Bool.not_eq_false, Bool.not_eq_true] at h25
            refine mj_b_iconst (hE := fe_125_28) (k := ?_)
            refine mj_b_goto (hE := fe_125_29) (k := ?_)
            exact p33 true (by simp [pf_from, h5, h9, h14, h18, h25])
end ND
