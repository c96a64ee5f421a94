/-! ===== the model: refresh, lock ===== -/
section NF
variable {L n : Nat} {S Sx : ty_st} {H : ty_hd} {rs : List ty_rw} {U : ty_st} {ts hs ms : List Int32} {f w : Int32} {I I' I0 I1 : Nat → Nat → Int32} {R : Nat → Nat → Option Nat} {Q : Option Value × mj_H → Prop} {z : Int32 × Int32}
theorem ck_lt {t : Int32} (hr : wf_st n S) (hn : n < 1000) (ht : pf_from t 1 100 = true) : S.2.2.1 < S.2.2.1 + t := by
  obtain ⟨c, hc, hc2⟩ := hr.2.2.1
  unfold pf_from at ht
  simp only [Bool.and_eq_true, Bool.not_eq_true', decide_eq_false_iff_not] at ht
  have k1 : 1 ≤ t.toInt := by have := ht.1; rw [Int32.lt_iff_toInt_lt, show (1 : Int32).toInt = 1 from rfl] at this; omega
  have k2 : t.toInt ≤ 100 := by have := ht.2; rw [Int32.lt_iff_toInt_lt, show (100 : Int32).toInt = 100 from rfl] at this; omega
  have e := i32_nI2 (a := t) (by omega)
  rw [hc, e, nI_add, nI_lt_iff (by omega) (by omega)]
  omega
theorem md_rep.lend {j : Nat} {l : ty_lk} (h : md_rep 1 U I) (hj : U.2.1[j]? = some l) (e : Int32) : md_rep 1 (x_end U j e) (mj_u I 97 (10 + j) e) ∧ fr_2 I (mj_u I 97 (10 + j) e) := by
  obtain ⟨h0, ⟨a1, a2⟩, ⟨b1, b2⟩, hr, hl, c1, c2, c3⟩ := h
  simp only [Nat.mul_one, Nat.reduceAdd] at a1 b1 hr hl c1 c2 c3
  have hjl := (List.getElem?_eq_some_iff.mp hj).1
  have hset : al_set U.2.1 j e = U.2.1.set j (lk_end e l) := by unfold al_set; rw [hj]
  refine ⟨⟨h0, ⟨?_, a2⟩, ⟨?_, ?_⟩, ?_, ?_, ?_, ?_, ?_⟩, ?_⟩
  · simp [mj_u, a1, x_end]
  · simp [mj_u, b1, x_end, hset]
  · simp only [x_end, al_set_len]; exact b2
  · intro i q hi
    simp only [Nat.mul_one]
    exact (hr i q hi).eq (fun x k h1 h2 => mj_u_na _ _ _ _ (by omega))
  · intro i q hi
    simp only [Nat.mul_one]
    simp only [x_end, hset] at hi
    rw [List.getElem?_set] at hi
    by_cases hij : j = i
    · subst hij
      simp [hjl] at hi
      obtain ⟨k0, k1, k2, k3, k4⟩ := hl j l hj
      rw [← hi]
      exact ⟨by simp [mj_u, k0, lk_end], by simp [mj_u, k1, lk_end], by simp [mj_u, k2, lk_end], by simp [mj_u, k3, lk_end], by simp [mj_u, lk_end]⟩
    · simp [hij] at hi
      have hne : ¬ i = j := fun e => hij e.symm
      obtain ⟨k0, k1, k2, k3, k4⟩ := hl i q hi
      exact ⟨by simp [mj_u, k0], by simp [mj_u, k1], by simp [mj_u, k2], by simp [mj_u, k3], by simp [mj_u, k4, hne]⟩
  · simp [mj_u, c1, x_end]
  · simp [mj_u, c2, x_end]
  · simp [mj_u, c3, x_end]
  · intro x k h1 h2 h3 h4
    have e1 : ¬ (x = 97 ∧ k = 10 + j) := by omega
    simp only [mj_u, e1, if_false]
theorem m_env.cv (h : m_env S H f w rs ts I I1) (hm : mm_ok R) (p : Int32) {j : Nat} {l : ty_lk} (hj : S.2.1[j]? = some l) : mj_G pj_P 99 [.ref 87, .int (nI j), .int p] (mz_SH L, I1, R) (fun r => r = (some (.int (pz (a_cov p l))), (mz_SH L, I1, R))) := by
  have := h.2.1.1.cv (L := L) hj p hm
  rwa [Nat.mul_zero, Nat.zero_add] at this
theorem m_env.sb (h : m_env S H f w rs ts I I1) (hm : mm_ok R) (t : Int32) : mj_G pj_P 106 [.ref 87, .int t] (mz_SH L, I1, R) (fun r => r = (some (.int (pz (a_sub H.1 t))), (mz_SH L, I1, R))) := by
  have := g106' (L := L) t hm h.2.2.2.2.1
  rwa [h.2.2.2.2.2] at this
theorem x_end_live {j : Nat} {e : Int32} (hl : ∀ l ∈ S.2.1, S.2.2.1 < l.2.2.1) (he : S.2.2.1 < e) : ∀ l ∈ (x_end S j e).2.1, (x_end S j e).2.2.1 < l.2.2.1 := by
  intro l h
  simp only [x_end] at h ⊢
  unfold al_set at h
  split at h
  · rcases List.mem_or_eq_of_mem_set h with h | h
    · exact hl l h
    · rw [h]; exact he
  · exact hl l h
set_option maxHeartbeats 4000000 in
/-- LockedTreeModel.refresh -/
theorem g127 (p t : Int32) (hn : n < 1000) (hm : mm_ok R) (h : m_all (rs, S.2) hs f w ms I) (hr : m_rel n S H f rs hs) :
    mj_G pj_P 127 [.ref 87, .int p, .int t] (mz_SH L, I, R) (mo_post L I R (o_rfr S H f w ms p t)) := by
  have hm0 := hm
  obtain ⟨q0, q1, q2, q3, q4, q5, q6, q7, q8, q9, q10, q11, q16, q21⟩ := hm
  have h87 := sm_87 L
  have h93 := sm_93 L
  have h97 := sm_97 L
  have h98 := sm_98 L
  have h6 := hr.2.1.2.1.2.1
  have p24 : ∀ ok : Bool, ok = (pf_path p && pf_from t 1 100) → mj_T pj_P 127 24 [.ref 87, .int p, .int t, .retAddr 0, .retAddr 0, .retAddr 0] [.int (pz ok), .ref 87] (mz_SH L, I, R) (mo_post L I R (o_rfr S H f w ms p t)) := by
    intro ok hok
    refine mj_b_iload_n (hE := fe_127_24) (hv := rfl) (k := ?_)
    refine mj_b_call (hE := fe_127_25) (hi := in_93) (h1 := g93S p ok hm0 h hr) (hc := mj_cok_v rfl rfl h87) (ha := rfl) (hr := rfl) ?_
    rintro v' M1 ⟨I1, hM, fM, hall, hb, hop⟩
    cases hM
    have hrf : ∀ c, a_fstR S.1 S.2.1 H p ok = c → c ≠ -1 → c ≠ 207 → mo_post L I R (o_rfr S H f w ms p t) (some (.int c), (mz_SH L, I1, R)) := by
      intro c hc h1 h2
      have e : o_rfr S H f w ms p t = o_ref S w ms c := by unfold o_rfr o_ans; rw [← hok, hc, if_neg h1]
      rw [e]
      exact mo_ref hr hall fM h2
    rcases a_fst_cases S H p ok with e | e | e
    · obtain ⟨hu, ts, hsb, hsub⟩ := hop e
      have hen : m_env S H f w rs ts I I1 := ⟨fM, hall, hb, hu, hsb, hsub⟩
      have n1 := hen.n1
      have hok3 := a_fstR_ok e
      rw [hok, Bool.and_eq_true] at hok3
      have c2 := hall.1.2.2.2.2.2.1
      simp only [Nat.mul_zero, Nat.zero_add] at c2
      have hpo : o_rfr S H f w ms p t = (match al_fs S.2.1 (a_sub H.1) p with
        | none => o_ref S w ms 412
        | some j => o_car S f w ms (x_end S j (S.2.2.1 + t)) 200) := by unfold o_rfr o_ans; rw [← hok, if_pos e]; all_goals (cases al_fs S.2.1 (a_sub H.1) p <;> rfl)
      rw [hpo, e, if_pos rfl]
      have p87 : ∀ v5, mj_T pj_P 127 87 [.ref 87, .int p, .int t, .int 0, .int (mv_ix 0 (al_fs S.2.1 (a_sub H.1) p)), v5] [] (mz_SH L, I1, R) (mo_post L I R (match al_fs S.2.1 (a_sub H.1) p with
        | none => o_ref S w ms 412
        | some j => o_car S f w ms (x_end S j (S.2.2.1 + t)) 200)) := by
        intro v5
        cases hf : al_fs S.2.1 (a_sub H.1) p with
        | none =>
          refine mj_b_iload (hE := fe_127_87) (hv := rfl) (k := ?_)
          refine mj_b_if1 (hE := fe_127_89) (kt := fun g => ?_) (kf := fun g => ?_)
          · exact absurd g (by decide)
          · refine mj_b_sipush (hE := fe_127_92) (k := ?_)
            exact mj_b_retI (hE := fe_127_95) (hi := in_127) (mo_ref hr hall fM (by decide))
        | some j =>
          have hjl : j < S.2.1.length := by
            unfold al_fs at hf
            exact (List.findIdx?_eq_some_iff_getElem.mp hf).1
          have hgj : S.2.1[j]? = some S.2.1[j] := List.getElem?_eq_getElem hjl
          obtain ⟨hu2, f2⟩ := hu.lend (j := j) hgj (S.2.2.1 + t)
          have hlive := x_end_live (j := j) hr.live (ck_lt hr.2.1 hn hok3.2)
          dsimp only
          refine mj_b_iload (hE := fe_127_87) (hv := rfl) (k := ?_)
          refine mj_b_if1 (hE := fe_127_89) (kt := fun g => ?_) (kf := fun g => ?_)
          · refine mj_b_rload_n (hE := fe_127_96) (hv := rfl) (k := ?_)
            refine mj_b_getQ (hE := fe_127_97) (hM := by assumption) (hv := by assumption) (k := ?_)
            refine mj_b_bipush (hE := fe_127_100) (k := ?_)
            refine mj_b_iload (hE := fe_127_102) (hv := rfl) (k := ?_)
            refine mj_b_iadd (hE := fe_127_104) (k := ?_)
            refine mj_b_rload_n (hE := fe_127_105) (hv := rfl) (k := ?_)
            refine mj_b_getQ (hE := fe_127_106) (hM := by assumption) (hv := by assumption) (k := ?_)
            refine mj_b_iconst (hE := fe_127_109) (k := ?_)
            refine mj_b_ialdN (hE := fe_127_110) (c := 2) (hM := by assumption) (ht := Or.inr rfl) (hj := rfl) (hc := by decide) (hn := by decide) (v := S.2.2.1) (hv := c2) (k := ?_)
            refine mj_b_iload_n (hE := fe_127_111) (hv := rfl) (k := ?_)
            refine mj_b_iadd (hE := fe_127_112) (k := ?_)
            refine mj_b_iastN (hE := fe_127_113) (c := 10 + j) (hM := h97) (hj := show (10 : Int32) + nI (0 + j) = nI (10 + j) by rw [Nat.zero_add, show (10 : Int32) = nI 10 from rfl, nI_add]) (hc := by omega) (hn := by decide) (k := ?_)
            refine mj_b_rload_n (hE := fe_127_114) (hv := rfl) (k := ?_)
            refine mj_b_sipush (hE := fe_127_115) (k := ?_)
            refine mj_b_call (hE := fe_127_118) (hi := in_108) (h1 := hen.car (ms := ms) (Sx := x_end S j (S.2.2.1 + t)) hm0 hr (Nat.le_refl _) f2 hu2 (wf_end hr.2.1.pre j _) hr.1 (fin_same (U := x_end (rs, S.2) j (S.2.2.1 + t)) hr.1 rfl hlive) (by decide)) (hc := mj_cok_v rfl rfl h87) (ha := rfl) (hr := rfl) ?_
            intro v' M2 hpo
            obtain ⟨I3, rs2, hM, hrest⟩ := id hpo
            cases hM
            exact mj_b_retI (hE := fe_127_121) (hi := in_127) hpo
          · exact absurd (nI_pos' (n := 0 + j) (by omega)) (of_decide_eq_false g)
      have loop : ∀ (i : Nat), i ≤ S.2.1.length → mj_T pj_P 127 48 [.ref 87, .int p, .int t, .int 0, .int (mv_ix 0 (((S.2.1.drop i).findIdx? (fun l => a_cov p l && a_sub H.1 l.1)).map (fun j => i + j))), .int (nI i - 1)] [] (mz_SH L, I1, R) (mo_post L I R (match al_fs S.2.1 (a_sub H.1) p with
        | none => o_ref S w ms 412
        | some j => o_car S f w ms (x_end S j (S.2.2.1 + t)) 200)) := by
        intro i
        induction i with
        | zero =>
          intro _
          have e0 : ((S.2.1.drop 0).findIdx? (fun l => a_cov p l && a_sub H.1 l.1)).map (fun j => 0 + j) = al_fs S.2.1 (a_sub H.1) p := by
            unfold al_fs
            simp
          rw [e0]
          refine mj_b_iload (hE := fe_127_48) (hv := rfl) (k := ?_)
          refine mj_b_if1 (hE := fe_127_50) (kt := fun g => ?_) (kf := fun g => ?_)
          · exact p87 _
          · exact absurd g (by decide)
        | succ j ih =>
          intro hi
          have hlt : j < S.2.1.length := by omega
          have hgj : S.2.1[j]? = some S.2.1[j] := List.getElem?_eq_getElem hlt
          have e1 : nI (j + 1) - 1 = nI j := by rw [nI_succ, Int32.add_sub_cancel]
          obtain ⟨e0, -⟩ := hall.1.2.2.2.2.1 j _ hgj
          rw [Nat.mul_zero, Nat.zero_add] at e0
          have ih2 := ih (by omega)
          rw [drop_get hlt, List.findIdx?_cons] at ih2
          have hnx : ∀ v, v = mv_ix 0 ((if (a_cov p S.2.1[j] && a_sub H.1 (S.2.1[j]).1) = true then some 0 else ((S.2.1.drop (j + 1)).findIdx? (fun l => a_cov p l && a_sub H.1 l.1)).map (fun i => i + 1)).map (fun i => j + i)) → mj_T pj_P 127 81 [.ref 87, .int p, .int t, .int 0, .int v, .int (nI j)] [] (mz_SH L, I1, R) (mo_post L I R (match al_fs S.2.1 (a_sub H.1) p with
            | none => o_ref S w ms 412
            | some j => o_car S f w ms (x_end S j (S.2.2.1 + t)) 200)) := by
            intro v hv
            refine mj_b_iinc (hE := fe_127_81) (hv := rfl) (k := ?_)
            refine mj_b_goto (hE := fe_127_84) (k := ?_)
            refine (show mj_T pj_P 127 48 [.ref 87, .int p, .int t, .int 0, .int v, .int (nI j + -1)] [] (mz_SH L, I1, R) _ from ?_)
            rw [hv, show nI j + -1 = nI j - 1 from by rw [Int32.sub_eq_add_neg]]
            exact ih2
          have hno : (a_cov p S.2.1[j] && a_sub H.1 (S.2.1[j]).1) = false → mj_T pj_P 127 81 [.ref 87, .int p, .int t, .int 0, .int (mv_ix 0 (((S.2.1.drop (j + 1)).findIdx? (fun l => a_cov p l && a_sub H.1 l.1)).map (fun i => j + 1 + i))), .int (nI j)] [] (mz_SH L, I1, R) (mo_post L I R (match al_fs S.2.1 (a_sub H.1) p with
            | none => o_ref S w ms 412
            | some j => o_car S f w ms (x_end S j (S.2.2.1 + t)) 200)) := by
            intro hx
            refine hnx _ ?_
            rw [hx]
            simp only [Bool.false_eq_true, if_false, Option.map_map]
            congr 2
            funext i
            simp only [Function.comp]
            omega
          rw [e1]
          refine mj_b_iload (hE := fe_127_48) (hv := rfl) (k := ?_)
          refine mj_b_if1 (hE := fe_127_50) (kt := fun g => ?_) (kf := fun g => ?_)
          · exact absurd (of_decide_eq_true g) (nI_pos (n := j) (by omega))
          · refine mj_b_rload_n (hE := fe_127_53) (hv := rfl) (k := ?_)
            refine mj_b_iload (hE := fe_127_54) (hv := rfl) (k := ?_)
            refine mj_b_iload_n (hE := fe_127_56) (hv := rfl) (k := ?_)
            refine mj_b_callR (hE := fe_127_57) (hi := in_99) (h1 := hen.cv hm0 p hgj) (hc := mj_cok_v rfl rfl h87) (ha := rfl) (hr := rfl) ?_
            refine mj_b_if1 (hE := fe_127_60) (kt := fun k1 => ?_) (kf := fun k1 => ?_)
            · simp only [mj_cnd, decide_eq_true_eq, pz_0] at k1
              exact hno (by simp [k1])
            · simp only [mj_cnd, decide_eq_false_iff_not, pz_0, Bool.not_eq_false] at k1
              refine mj_b_rload_n (hE := fe_127_63) (hv := rfl) (k := ?_)
              refine mj_b_rload_n (hE := fe_127_64) (hv := rfl) (k := ?_)
              refine mj_b_getQ (hE := fe_127_65) (hM := by assumption) (hv := by assumption) (k := ?_)
              refine mj_b_iload (hE := fe_127_68) (hv := rfl) (k := ?_)
              refine mj_b_ialdN (hE := fe_127_70) (hM := h93) (ht := Or.inr rfl) (hj := rfl) (hc := by omega) (hn := by decide) (hv := e0) (k := ?_)
              refine mj_b_callR (hE := fe_127_71) (hi := in_106) (h1 := hen.sb hm0 _) (hc := mj_cok_v rfl rfl h87) (ha := rfl) (hr := rfl) ?_
              refine mj_b_if1 (hE := fe_127_74) (kt := fun k2 => ?_) (kf := fun k2 => ?_)
              · simp only [mj_cnd, decide_eq_true_eq, pz_0] at k2
                exact hno (by simp [k2])
              · simp only [mj_cnd, decide_eq_false_iff_not, pz_0, Bool.not_eq_false] at k2
                refine mj_b_iload (hE := fe_127_77) (hv := rfl) (k := ?_)
                refine mj_b_istore (hE := fe_127_79) (hx := Nat.le_of_ble_eq_true rfl) (k := ?_)
                refine hnx _ ?_
                rw [k1, k2]
                simp [mv_ix]
      refine (show mj_T pj_P 127 28 [.ref 87, .int p, .int t, .retAddr 0, .retAddr 0, .retAddr 0] [.int 0] (mz_SH L, I1, R) _ from ?_)
      refine mj_b_istore_n (hE := fe_127_28) (hx := Nat.le_of_ble_eq_true rfl) (k := ?_)
      refine mj_b_iload_n (hE := fe_127_29) (hv := rfl) (k := ?_)
      refine mj_b_if1 (hE := fe_127_30) (kt := fun g => ?_) (kf := fun g => absurd g (by decide))
      refine mj_b_iconst (hE := fe_127_35) (k := ?_)
      refine mj_b_istore (hE := fe_127_36) (hx := Nat.le_of_ble_eq_true rfl) (k := ?_)
      refine mj_b_rload_n (hE := fe_127_38) (hv := rfl) (k := ?_)
      refine mj_b_getQ (hE := fe_127_39) (hM := by assumption) (hv := by assumption) (k := ?_)
      refine mj_b_iconst (hE := fe_127_42) (k := ?_)
      refine mj_b_ialdN (hE := fe_127_43) (c := 1) (hM := by assumption) (ht := Or.inr rfl) (hj := rfl) (hc := by decide) (hn := by decide) (hv := by first | assumption | rfl) (k := ?_)
      refine mj_b_iconst (hE := fe_127_44) (k := ?_)
      refine mj_b_isub (hE := fe_127_45) (k := ?_)
      refine mj_b_istore (hE := fe_127_46) (hx := Nat.le_of_ble_eq_true rfl) (k := ?_)
      have := loop S.2.1.length (Nat.le_refl _)
      rw [List.drop_length] at this
      exact this
    all_goals
      rw [e, if_neg (by decide)]
      refine mj_b_istore_n (hE := fe_127_28) (hx := Nat.le_of_ble_eq_true rfl) (k := ?_)
      refine mj_b_iload_n (hE := fe_127_29) (hv := rfl) (k := ?_)
      refine mj_b_if1 (hE := fe_127_30) (kt := fun g => absurd g (by decide)) (kf := fun g => ?_)
      refine mj_b_iload_n (hE := fe_127_33) (hv := rfl) (k := ?_)
      exact mj_b_retI (hE := fe_127_34) (hi := in_127) (hrf _ e (by decide) (by decide))
  refine mj_enter in_127 (L := [.ref 87, .int p, .int t, .retAddr 0, .retAddr 0, .retAddr 0]) rfl ?_
  refine mj_b_rload_n (hE := fe_127_0) (hv := rfl) (k := ?_)
  refine mj_b_iload_n (hE := fe_127_1) (hv := rfl) (k := ?_)
  refine mj_b_callR (hE := fe_127_2) (hi := in_92) (h1 := g92 _ _) (hc := mj_cok_s rfl) (ha := rfl) (hr := rfl) ?_
  refine mj_b_if1 (hE := fe_127_5) (kt := fun h5 => ?_) (kf := fun h5 => ?_)
  · simp only [mj_cnd, decide_eq_true_eq, decide_eq_false_iff_not, Bool.not_eq_true', Bool.not_eq_false', pz_0, Bool.not_eq_false, Bool.not_eq_true] at h5
    refine mj_b_iconst (hE := fe_127_23) (k := ?_)
    exact p24 false (by simp [pf_from, h5])
  · simp only [mj_cnd, decide_eq_true_eq, decide_eq_false_iff_not, Bool.not_eq_true', Bool.not_eq_false', pz_0, Bool.not_eq_false, Bool.not_eq_true] at h5
    refine mj_b_iload_n (hE := fe_127_8) (hv := rfl) (k := ?_)
    refine mj_b_iconst (hE := fe_127_9) (k := ?_)
    refine mj_b_if2 (hE := fe_127_10) (kt := fun h10 => ?_) (kf := fun h10 => ?_)
    · simp only [mj_cnd, decide_eq_true_eq, decide_eq_false_iff_not, Bool.not_eq_true', Bool.not_eq_false', pz_0, Bool.not_eq_false, Bool.not_eq_true] at h10
      refine mj_b_iconst (hE := fe_127_23) (k := ?_)
      exact p24 false (by simp [pf_from, h5, h10])
    · simp only [mj_cnd, decide_eq_true_eq, decide_eq_false_iff_not, Bool.not_eq_true', Bool.not_eq_false', pz_0, Bool.not_eq_false, Bool.not_eq_true] at h10
      refine mj_b_iload_n (hE := fe_127_13) (hv := rfl) (k := ?_)
      refine mj_b_bipush (hE := fe_127_14) (k := ?_)
      refine mj_b_if2 (hE := fe_127_16) (kt := fun h16 => ?_) (kf := fun h16 => ?_)
      · simp only [mj_cnd, decide_eq_true_eq, decide_eq_false_iff_not, Bool.not_eq_true', Bool.not_eq_false', pz_0, Bool.not_eq_false, Bool.not_eq_true] at h16
        refine mj_b_iconst (hE := fe_127_23) (k := ?_)
        exact p24 false (by simp [pf_from, h5, h10, h16])
      · simp only [mj_cnd, decide_eq_true_eq, decide_eq_false_iff_not, Bool.not_eq_true', Bool.not_eq_false', pz_0, Bool.not_eq_false, Bool.not_eq_true] at h16
        refine mj_b_iconst (hE := fe_127_19) (k := ?_)
        refine mj_b_goto (hE := fe_127_20) (k := ?_)
        exact p24 true (by simp [pf_from, h5, h10, h16])
end NF
