/-! ===== the model: copy ===== -/
section NN
variable {L n : Nat} {S Sx : ty_st} {H : ty_hd} {rs : List ty_rw} {U : ty_st} {ts hs ms : List Int32} {f w : Int32} {I I' I0 I1 : Nat → Nat → Int32} {R : Nat → Nat → Option Nat} {Q : Option Value × mj_H → Prop} {z : Int32 × Int32}
set_option maxHeartbeats 4000000 in
/-- LockedTreeModel.copy -/
theorem g118 (p q : Int32) (dq ov : Bool) (hm : mm_ok R) (h : m_all (rs, S.2) hs f w ms I) (hr : m_rel n S H f rs hs) :
    mj_G pj_P 118 [.ref 87, .int p, .int q, .int (pz dq), .int (pz ov)] (mz_SH L, I, R) (mo_post L I R (o_cop S H f w ms p q dq ov)) := by
  have hm0 := hm
  obtain ⟨q0, q1, q2, q3, q4, q5, q6, q7, q8, q9, q10, q11, q16, q21⟩ := hm
  have h87 := sm_87 L
  have h13 := hr.2.1.1.2.1
  have p20 : ∀ ok : Bool, ok = (pf_path p && pf_path q) → mj_T pj_P 118 20 [.ref 87, .int p, .int q, .int (pz dq), .int (pz ov), .retAddr 0, .retAddr 0, .retAddr 0, .retAddr 0, .retAddr 0, .retAddr 0, .retAddr 0] [.int (pz ok), .ref 87] (mz_SH L, I, R) (mo_post L I R (o_cop S H f w ms p q dq ov)) := by
    intro ok hok
    refine mj_b_iload_n (hE := fe_118_20) (hv := rfl) (k := ?_)
    refine mj_b_call (hE := fe_118_21) (hi := in_93) (h1 := g93S p ok hm0 h hr) (hc := mj_cok_v rfl rfl h87) (ha := rfl) (hr := rfl) ?_
    rintro v' M1 ⟨I1, hM, fM, hall, hb, hop⟩
    cases hM
    have hrf : ∀ c, a_two (a_two (a_fstR S.1 S.2.1 H p ok) (a_tgtR S.1 p q ov)) (a_copR S.1 S.2.1 (a_sub H.1) p q dq) = c → c ≠ -1 → c ≠ 207 → mo_post L I R (o_cop S H f w ms p q dq ov) (some (.int c), (mz_SH L, I1, R)) := by
      intro c hc h1 h2
      have e : o_cop S H f w ms p q dq ov = o_ref S w ms c := by unfold o_cop o_ans; rw [← hok, hc, if_neg h1]
      rw [e]
      exact mo_ref hr hall fM h2
    rcases a_fst_cases S H p ok with e | e | e
    · have h2t : a_two (a_two (a_fstR S.1 S.2.1 H p ok) (a_tgtR S.1 p q ov)) (a_copR S.1 S.2.1 (a_sub H.1) p q dq) = wy_R S (a_sub H.1) p q dq ov false := by
        unfold wy_R a_two
        rw [if_pos e]
        simp
      obtain ⟨hu, ts, hsb, hsub⟩ := hop e
      have hen : m_env S H f w rs ts I I1 := ⟨fM, hall, hb, hu, hsb, hsub⟩
      have hok3 := a_fstR_ok e
      rw [hok, Bool.and_eq_true] at hok3
      obtain ⟨hpp, hqq⟩ := hok3
      have hnegq := hr.neg q
      have g119c := g119 (L := L) p q dq ov false (fun e => by cases e) hpp hqq hen hm0 hr
      rw [e, if_pos rfl]
      refine (show mj_T pj_P 118 24 [.ref 87, .int p, .int q, .int (pz dq), .int (pz ov), .retAddr 0, .retAddr 0, .retAddr 0, .retAddr 0, .retAddr 0, .retAddr 0, .retAddr 0] [.int 0] (mz_SH L, I1, R) _ from ?_)
      refine mj_b_istore (hE := fe_118_24) (hx := Nat.le_of_ble_eq_true rfl) (k := ?_)
      refine mj_b_iload (hE := fe_118_26) (hv := rfl) (k := ?_)
      refine mj_b_if1 (hE := fe_118_28) (kt := fun g => ?_) (kf := fun g => absurd g (by decide))
      refine mj_b_rload_n (hE := fe_118_34) (hv := rfl) (k := ?_)
      refine mj_b_iload_n (hE := fe_118_35) (hv := rfl) (k := ?_)
      refine mj_b_iload_n (hE := fe_118_36) (hv := rfl) (k := ?_)
      refine mj_b_iload_n (hE := fe_118_37) (hv := rfl) (k := ?_)
      refine mj_b_iload (hE := fe_118_38) (hv := rfl) (k := ?_)
      refine mj_b_iconst (hE := fe_118_40) (k := ?_)
      refine mj_b_callR (hE := fe_118_41) (hi := in_119) (h1 := g119c) (hc := mj_cok_v rfl rfl h87) (ha := rfl) (hr := rfl) ?_
      by_cases hwy : wy_R S (a_sub H.1) p q dq ov false = -1
      · rw [if_pos hwy]
        rw [hwy] at h2t
        have hcar : o_cop S H f w ms p q dq ov = o_car S f w ms (x_cop S p q dq) (if ar_has S.1 q = true then 204 else 201) := by unfold o_cop o_ans; rw [← hok, h2t, if_pos rfl]
        rw [hcar]
        obtain ⟨htg, hmv⟩ := a_two_ok hwy
        simp only [Bool.false_eq_true, if_false] at hmv
        obtain ⟨hq0, t2, -⟩ := a_tgtR_ok htg
        have hp0 := a_tgt_p0 hqq hq0 t2
        have hwm := wf_cop hr.2.1.pre hpp hqq htg hmv
        obtain ⟨hrd, -⟩ := rdy_cop hr.2.1.pre hpp hqq htg hmv
        obtain ⟨⟨sp1, -⟩, sp2⟩ := x_cpl_spec p q dq S.1 _ S.2.2.2.1 hrd
        obtain ⟨pn, hpn, hpn2⟩ := pf_path_nat hpp
        have hpn3 := hpn2.1
        refine mj_b_istore (hE := fe_118_44) (hx := Nat.le_of_ble_eq_true rfl) (k := ?_)
        refine mj_b_iload (hE := fe_118_46) (hv := rfl) (k := ?_)
        refine mj_b_if1 (hE := fe_118_48) (kt := fun g => ?_) (kf := fun g => absurd g (by decide))
        have p68 : ∀ wa : Bool, wa = ar_has S.1 q → mj_T pj_P 118 68 [.ref 87, .int p, .int q, .int (pz dq), .int (pz ov), .int 0, .retAddr 0, .retAddr 0, .retAddr 0, .retAddr 0, .retAddr 0, .retAddr 0] [.int (pz wa)] (mz_SH L, I1, R) (mo_post L I R (o_car S f w ms (x_cop S p q dq) (if ar_has S.1 q = true then 204 else 201))) := by
          intro wa hwa
          refine mj_b_istore (hE := fe_118_68) (hx := Nat.le_of_ble_eq_true rfl) (k := ?_)
          refine mj_b_rload_n (hE := fe_118_70) (hv := rfl) (k := ?_)
          refine mj_b_iload_n (hE := fe_118_71) (hv := rfl) (k := ?_)
          refine mj_b_call (hE := fe_118_72) (hi := in_122) (h1 := g122 q hm0 hu) (hc := mj_cok_v rfl rfl h87) (ha := rfl) (hr := rfl) ?_
          rintro v' M1 ⟨I2, B, hM, hu2, hB, f2⟩
          cases hM
          dsimp only at hB hu2
          have hBS : B.Perm (S.1.filter (ar_out q)) := hB.trans (hr.1.filter _)
          have hxp : (B ++ x_cpm p q dq S.1 S.2.2.2.1).Perm (x_cop S p q dq).1 := (hBS.append_right _).trans sp1.symm
          have hx2 : (S.2.1, S.2.2.1, S.2.2.2.1 + nI (x_cpm p q dq S.1 S.2.2.2.1).length, S.2.2.2.2) = (x_cop S p q dq).2 := by unfold x_cop; rw [sp2]
          refine (show mj_T pj_P 118 75 [.ref 87, .int p, .int q, .int (pz dq), .int (pz ov), .int 0, .int (pz wa), .retAddr 0, .retAddr 0, .retAddr 0, .retAddr 0, .retAddr 0] [] (mz_SH L, I2, R) _ from ?_)
          refine mj_b_iload_n (hE := fe_118_75) (hv := rfl) (k := ?_)
          refine mj_b_istore (hE := fe_118_76) (hx := Nat.le_of_ble_eq_true rfl) (k := ?_)
          have hcq0 : cq_l S pn pn = [] := by unfold cq_l; simp
          have hstart : md_rep 1 (B ++ x_cpm p q dq (cq_l S pn pn) S.2.2.2.1, S.2.1, S.2.2.1, S.2.2.2.1 + nI (x_cpm p q dq (cq_l S pn pn) S.2.2.2.1).length, S.2.2.2.2) I2 := by
            rw [hcq0]
            simp only [x_cpm, List.append_nil, List.length_nil]
            rw [show nI 0 = 0 from rfl, Int32.add_zero]
            exact hu2
          have hgo := l118 (L := L) (R := R) (v4 := .int (pz ov)) (v5 := .int 0) (v6 := .int (pz wa)) (Q := mo_post L I R (o_car S f w ms (x_cop S p q dq) (if ar_has S.1 q = true then 204 else 201))) hm0 hr hpn hpn3 hpp hqq hp0 hrd hBS hall.1 ?_ (4096 - pn) pn I2 (.retAddr 0) (.retAddr 0) (.retAddr 0) (.retAddr 0) (by omega) (Nat.le_refl _) hstart f2
          · rw [← hpn] at hgo
            exact hgo
          intro I3 v7 v8 v9 v10 v11 hu3 f3
          rw [hx2] at hu3
          refine mj_b_rload_n (hE := fe_118_203) (hv := rfl) (k := ?_)
          refine mj_b_iload (hE := fe_118_204) (hv := rfl) (k := ?_)
          refine mj_b_if1 (hE := fe_118_206) (kt := fun k => ?_) (kf := fun k => ?_)
          · simp only [mj_cnd, decide_eq_true_eq, pz_0] at k
            rw [k] at hwa
            rw [← hwa, if_neg (by decide)]
            refine mj_b_sipush (hE := fe_118_215) (k := ?_)
            refine mj_b_call (hE := fe_118_218) (hi := in_108) (h1 := hen.car (ms := ms) (Sx := x_cop S p q dq) hm0 hr (Nat.le_refl _) f3 hu3 hwm hxp (fin_same hxp rfl hr.live) (by decide)) (hc := mj_cok_v rfl rfl h87) (ha := rfl) (hr := rfl) ?_
            intro v' M2 hpo
            obtain ⟨I4, rs2, hM, hrest⟩ := id hpo
            cases hM
            exact mj_b_retI (hE := fe_118_221) (hi := in_118) hpo
          · simp only [mj_cnd, decide_eq_false_iff_not, pz_0, Bool.not_eq_false] at k
            rw [k] at hwa
            rw [← hwa, if_pos rfl]
            refine mj_b_sipush (hE := fe_118_209) (k := ?_)
            refine mj_b_goto (hE := fe_118_212) (k := ?_)
            refine mj_b_call (hE := fe_118_218) (hi := in_108) (h1 := hen.car (ms := ms) (Sx := x_cop S p q dq) hm0 hr (Nat.le_refl _) f3 hu3 hwm hxp (fin_same hxp rfl hr.live) (by decide)) (hc := mj_cok_v rfl rfl h87) (ha := rfl) (hr := rfl) ?_
            intro v' M2 hpo
            obtain ⟨I4, rs2, hM, hrest⟩ := id hpo
            cases hM
            exact mj_b_retI (hE := fe_118_221) (hi := in_118) hpo
        refine mj_b_rload_n (hE := fe_118_54) (hv := rfl) (k := ?_)
        refine mj_b_iload_n (hE := fe_118_55) (hv := rfl) (k := ?_)
        refine mj_b_iconst (hE := fe_118_56) (k := ?_)
        refine mj_b_callR (hE := fe_118_57) (hi := in_101) (h1 := hen.fnd hm0 hr q) (hc := mj_cok_v rfl rfl h87) (ha := rfl) (hr := rfl) ?_
        refine mj_b_if1 (hE := fe_118_60) (kt := fun k => ?_) (kf := fun k => ?_)
        · simp only [mj_cnd, decide_eq_true_eq] at k
          rw [hnegq] at k
          refine mj_b_iconst (hE := fe_118_67) (k := ?_)
          exact p68 false k.symm
        · simp only [mj_cnd, decide_eq_false_iff_not] at k
          rw [hnegq, Bool.not_eq_false] at k
          refine mj_b_iconst (hE := fe_118_63) (k := ?_)
          refine mj_b_goto (hE := fe_118_64) (k := ?_)
          exact p68 true k.symm
      · rw [if_neg hwy]
        have hcs : ∃ c, wy_R S (a_sub H.1) p q dq ov false = c ∧ c ≠ 0 ∧ c ≠ -1 ∧ c ≠ 207 := by
          refine ⟨_, rfl, ?_, hwy, ?_⟩
          · unfold wy_R a_two a_tgtR a_copR
            simp only [Bool.false_eq_true, if_false]
            repeat' split
            all_goals decide
          · unfold wy_R a_two a_tgtR a_copR
            simp only [Bool.false_eq_true, if_false]
            repeat' split
            all_goals decide
        obtain ⟨c, hc, hc0, hc1, hc2⟩ := hcs
        rw [hc] at h2t ⊢
        refine mj_b_istore (hE := fe_118_44) (hx := Nat.le_of_ble_eq_true rfl) (k := ?_)
        refine mj_b_iload (hE := fe_118_46) (hv := rfl) (k := ?_)
        refine mj_b_if1 (hE := fe_118_48) (kt := fun g2 => ?_) (kf := fun g2 => ?_)
        · simp only [mj_cnd, decide_eq_true_eq] at g2
          exact absurd g2 hc0
        · refine mj_b_iload (hE := fe_118_51) (hv := rfl) (k := ?_)
          exact mj_b_retI (hE := fe_118_53) (hi := in_118) (hrf c h2t hc1 hc2)
    all_goals
      rw [e, if_neg (by decide)]
      refine mj_b_istore (hE := fe_118_24) (hx := Nat.le_of_ble_eq_true rfl) (k := ?_)
      refine mj_b_iload (hE := fe_118_26) (hv := rfl) (k := ?_)
      refine mj_b_if1 (hE := fe_118_28) (kt := fun g => absurd g (by decide)) (kf := fun g => ?_)
      refine mj_b_iload (hE := fe_118_31) (hv := rfl) (k := ?_)
      exact mj_b_retI (hE := fe_118_33) (hi := in_118) (hrf _ (by unfold a_two; rw [e]; simp) (by decide) (by decide))
  refine mj_enter in_118 (L := [.ref 87, .int p, .int q, .int (pz dq), .int (pz ov), .retAddr 0, .retAddr 0, .retAddr 0, .retAddr 0, .retAddr 0, .retAddr 0, .retAddr 0]) rfl ?_
  refine mj_b_rload_n (hE := fe_118_0) (hv := rfl) (k := ?_)
  refine mj_b_iload_n (hE := fe_118_1) (hv := rfl) (k := ?_)
  refine mj_b_callR (hE := fe_118_2) (hi := in_92) (h1 := g92 _ _) (hc := mj_cok_s rfl) (ha := rfl) (hr := rfl) ?_
  refine mj_b_if1 (hE := fe_118_5) (kt := fun h5 => ?_) (kf := fun h5 => ?_)
  · simp only [mj_cnd, decide_eq_true_eq, decide_eq_false_iff_not, Bool.not_eq_true', Bool.not_eq_false', pz_0, Bool.not_eq_false, Bool.not_eq_true] at h5
    refine mj_b_iconst (hE := fe_118_19) (k := ?_)
    exact p20 false (by simp [h5])
  · simp only [mj_cnd, decide_eq_true_eq, decide_eq_false_iff_not, Bool.not_eq_true', Bool.not_eq_false', pz_0, Bool.not_eq_false, Bool.not_eq_true] at h5
    refine mj_b_iload_n (hE := fe_118_8) (hv := rfl) (k := ?_)
    refine mj_b_callR (hE := fe_118_9) (hi := in_92) (h1 := g92 _ _) (hc := mj_cok_s rfl) (ha := rfl) (hr := rfl) ?_
    refine mj_b_if1 (hE := fe_118_12) (kt := fun h12 => ?_) (kf := fun h12 => ?_)
    · simp only [mj_cnd, decide_eq_true_eq, decide_eq_false_iff_not, Bool.not_eq_true', Bool.not_eq_false', pz_0, Bool.not_eq_false, Bool.not_eq_true] at h12
      refine mj_b_iconst (hE := fe_118_19) (k := ?_)
      exact p20 false (by simp [h5, h12])
    · simp only [mj_cnd, decide_eq_true_eq, decide_eq_false_iff_not, Bool.not_eq_true', Bool.not_eq_false', pz_0, Bool.not_eq_false, Bool.not_eq_true] at h12
      refine mj_b_iconst (hE := fe_118_15) (k := ?_)
      refine mj_b_goto (hE := fe_118_16) (k := ?_)
      exact p20 true (by simp [h5, h12])
end NN
