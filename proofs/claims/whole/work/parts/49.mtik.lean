/-! ===== the model: tick, unlock, refresh ===== -/
section NE
variable {L n : Nat} {S Sx : ty_st} {H : ty_hd} {rs : List ty_rw} {U : ty_st} {ts hs ms : List Int32} {f w : Int32} {I I' I0 I1 : Nat → Nat → Int32} {R : Nat → Nat → Option Nat} {Q : Option Value × mj_H → Prop} {z : Int32 × Int32}
theorem md_rep.clk (h : md_rep 1 U I) (v : Int32) : md_rep 1 (U.1, U.2.1, v, U.2.2.2) (mj_u I 98 7 v) := by
  obtain ⟨h0, ⟨a1, a2⟩, ⟨b1, b2⟩, hr, hl, c1, c2, c3⟩ := h
  simp only [Nat.mul_one, Nat.reduceAdd] at a1 b1 hr hl c1 c2 c3
  refine ⟨h0, ⟨?_, a2⟩, ⟨?_, b2⟩, ?_, ?_, ?_, ?_, ?_⟩
  · simp [mj_u, a1]
  · simp [mj_u, b1]
  · intro i r hi
    simp only [Nat.mul_one]
    exact (hr i r hi).eq (fun x k h1 h2 => mj_u_na _ _ _ _ (by omega))
  · intro i l hi
    simp only [Nat.mul_one]
    exact (hl i l hi).eq (fun x k h1 h2 => mj_u_na _ _ _ _ (by omega))
  · simp [mj_u]
  · simp [mj_u, c2]
  · simp [mj_u, c3]
def tk_kp (ck : Int32) (l : ty_lk) : Bool := !decide (l.2.2.1 ≤ ck)
set_option maxHeartbeats 2000000 in
theorem l129 {k s : Int32} (hm : mm_ok R) (hl6 : U.2.1.length ≤ 6)
    (hk : ∀ I1 v3, md_rep 1 (U.1, U.2.1.filter (tk_kp U.2.2.1), U.2.2) I1 → fr_2 I0 I1 → mj_T pj_P 129 83 [.ref 87, .int k, .int s, v3] [] (mz_SH L, I1, R) Q) :
    ∀ (i : Nat) (I1 : Nat → Nat → Int32), i ≤ U.2.1.length → md_rep 1 (U.1, U.2.1.take i ++ (U.2.1.drop i).filter (tk_kp U.2.2.1), U.2.2) I1 → fr_2 I0 I1 → mj_T pj_P 129 50 [.ref 87, .int k, .int s, .int (nI (9 + i))] [] (mz_SH L, I1, R) Q := by
  have hm0 := hm
  obtain ⟨q0, q1, q2, q3, q4, q5, q6, q7, q8, q9, q10, q11, q16, q21⟩ := hm
  have h87 := sm_87 L
  have h97 := sm_97 L
  have h98 := sm_98 L
  intro i
  induction i with
  | zero =>
    intro I1 hi h hf
    refine mj_b_iload_n (hE := fe_129_50) (hv := rfl) (k := ?_)
    refine mj_b_bipush (hE := fe_129_51) (k := ?_)
    refine mj_b_if2 (hE := fe_129_53) (kt := fun g => ?_) (kf := fun g => ?_)
    · exact hk _ _ h hf
    · exact absurd g (by decide)
  | succ j ih =>
    intro I1 hi h hf
    have hlt : j < U.2.1.length := by omega
    have hgj := kp_get (tk_kp U.2.2.1) U.2.1 hlt
    have hlk := h.2.2.2.2.1 j _ hgj
    rw [Nat.mul_one] at hlk
    have hend := hlk.2.2.2.2
    have c7 := h.2.2.2.2.2.1
    simp only [Nat.mul_one, Nat.reduceAdd] at c7
    have hstep := kp_step (tk_kp U.2.2.1) U.2.1 hlt
    have hnx : ∀ I2, md_rep 1 (U.1, U.2.1.take j ++ (U.2.1.drop j).filter (tk_kp U.2.2.1), U.2.2) I2 → fr_2 I0 I2 → mj_T pj_P 129 77 [.ref 87, .int k, .int s, .int (nI (10 + j))] [] (mz_SH L, I2, R) Q := by
      intro I2 h2 hf2
      refine mj_b_iinc (hE := fe_129_77) (hv := rfl) (k := ?_)
      refine mj_b_goto (hE := fe_129_80) (k := ?_)
      refine (show mj_T pj_P 129 50 [.ref 87, .int k, .int s, .int (nI (10 + j) + -1)] [] (mz_SH L, I2, R) Q from ?_)
      have e : nI (10 + j) + -1 = nI (9 + j) := by
        rw [show 10 + j = 9 + j + 1 by omega, nI_succ, Int32.add_assoc, show (1 : Int32) + -1 = 0 from rfl, Int32.add_zero]
      rw [e]
      exact ih I2 (by omega) h2 hf2
    rw [show 9 + (j + 1) = 10 + j by omega]
    refine mj_b_iload_n (hE := fe_129_50) (hv := rfl) (k := ?_)
    refine mj_b_bipush (hE := fe_129_51) (k := ?_)
    refine mj_b_if2 (hE := fe_129_53) (kt := fun g => ?_) (kf := fun g => ?_)
    · simp only [mj_cnd, decide_eq_true_eq] at g
      exact absurd g (by rw [show (10 : Int32) = nI 10 from rfl, nI_lt_iff (by omega) (by omega)]; omega)
    · refine mj_b_rload_n (hE := fe_129_56) (hv := rfl) (k := ?_)
      refine mj_b_getQ (hE := fe_129_57) (hM := by assumption) (hv := by assumption) (k := ?_)
      refine mj_b_iload_n (hE := fe_129_60) (hv := rfl) (k := ?_)
      refine mj_b_ialdN (hE := fe_129_61) (v := (U.2.1[j]).2.2.1) (hM := h97) (ht := Or.inr rfl) (hj := rfl) (hc := by omega) (hn := by decide) (hv := hend) (k := ?_)
      refine mj_b_rload_n (hE := fe_129_62) (hv := rfl) (k := ?_)
      refine mj_b_getQ (hE := fe_129_63) (hM := by assumption) (hv := by assumption) (k := ?_)
      refine mj_b_bipush (hE := fe_129_66) (k := ?_)
      refine mj_b_ialdN (hE := fe_129_68) (c := 7) (hM := by assumption) (ht := Or.inr rfl) (hj := rfl) (hc := by decide) (hn := by decide) (v := U.2.2.1) (hv := c7) (k := ?_)
      refine mj_b_if2 (hE := fe_129_69) (kt := fun m => ?_) (kf := fun m => ?_)
      · simp only [mj_cnd, decide_eq_true_eq] at m
        refine hnx I1 ?_ hf
        rw [hstep, if_pos (by unfold tk_kp; rw [Bool.not_eq_true', decide_eq_false_iff_not]; exact i32_lt_nle m)]
        exact h
      · simp only [mj_cnd, decide_eq_false_iff_not] at m
        refine mj_b_rload_n (hE := fe_129_72) (hv := rfl) (k := ?_)
        refine mj_b_iload_n (hE := fe_129_73) (hv := rfl) (k := ?_)
        refine mj_b_call (hE := fe_129_74) (hi := in_109) (h1 := g109 (i := j) hm0 h (by rw [List.length_append, List.length_take]; omega)) (hc := mj_cok_v rfl rfl h87) (ha := rfl) (hr := rfl) ?_
        rintro v' M1 ⟨I2, hM, h2, hf2⟩
        cases hM
        refine hnx I2 ?_ (hf.trans hf2)
        rw [hstep, if_neg (by unfold tk_kp; rw [Bool.not_eq_true', decide_eq_false_iff_not, Decidable.not_not]; exact i32_nlt_le m)]
        exact h2
set_option maxHeartbeats 4000000 in
/-- LockedTreeModel.tick -/
theorem g129 (k : Int32) (hm : mm_ok R) (h : m_all (rs, S.2) hs f w ms I) (hr : m_rel n S H f rs hs) :
    mj_G pj_P 129 [.ref 87, .int k] (mz_SH L, I, R) (mo_post L I R (o_tik S H f w ms k)) := by
  have hm0 := hm
  obtain ⟨q0, q1, q2, q3, q4, q5, q6, q7, q8, q9, q10, q11, q16, q21⟩ := hm
  have h87 := sm_87 L
  have h98 := sm_98 L
  have p17 : ∀ ok : Bool, ok = pf_from k 0 1000 → mj_T pj_P 129 17 [.ref 87, .int k, .retAddr 0, .retAddr 0] [.int (pz ok), .ref 87] (mz_SH L, I, R) (mo_post L I R (o_tik S H f w ms k)) := by
    intro ok hok
    refine mj_b_iconst (hE := fe_129_17) (k := ?_)
    refine mj_b_call (hE := fe_129_18) (hi := in_93) (h1 := g93S 0 ok hm0 h hr) (hc := mj_cok_v rfl rfl h87) (ha := rfl) (hr := rfl) ?_
    rintro v' M1 ⟨I1, hM, fM, hall, hb, hop⟩
    cases hM
    have hrf : ∀ c, a_fstR S.1 S.2.1 H 0 ok = c → c ≠ -1 → c ≠ 207 → mo_post L I R (o_tik S H f w ms k) (some (.int c), (mz_SH L, I1, R)) := by
      intro c hc h1 h2
      have e : o_tik S H f w ms k = o_ref S w ms c := by unfold o_tik o_ans; rw [← hok, hc, if_neg h1]
      rw [e]
      exact mo_ref hr hall fM h2
    rcases a_fst_cases S H 0 ok with e | e | e
    · obtain ⟨hu, ts, hsb, hsub⟩ := hop e
      have hen : m_env S H f w rs ts I I1 := ⟨fM, hall, hb, hu, hsb, hsub⟩
      have hok3 := a_fstR_ok e
      rw [hok] at hok3
      have hcar : o_tik S H f w ms k = o_car S f w ms (x_tik S k) 200 := by unfold o_tik o_ans; rw [← hok, if_pos e]
      rw [hcar, e, if_pos rfl]
      have c7 := hu.2.2.2.2.2.1
      have b6 := hu.2.2.1.1
      have b66 := hu.2.2.1.2
      simp only [Nat.mul_one, Nat.reduceAdd] at c7 b6
      refine (show mj_T pj_P 129 21 [.ref 87, .int k, .retAddr 0, .retAddr 0] [.int 0] (mz_SH L, I1, R) _ from ?_)
      refine mj_b_istore_n (hE := fe_129_21) (hx := Nat.le_of_ble_eq_true rfl) (k := ?_)
      refine mj_b_iload_n (hE := fe_129_22) (hv := rfl) (k := ?_)
      refine mj_b_if1 (hE := fe_129_23) (kt := fun g => ?_) (kf := fun g => absurd g (by decide))
      have hu2 := hu.clk (S.2.2.1 + k)
      have f2 : fr_2 I1 (mj_u I1 98 7 (S.2.2.1 + k)) := fr_2.u (by omega)
      refine mj_b_rload_n (hE := fe_129_28) (hv := rfl) (k := ?_)
      refine mj_b_getQ (hE := fe_129_29) (hM := by assumption) (hv := by assumption) (k := ?_)
      refine mj_b_bipush (hE := fe_129_32) (k := ?_)
      refine mj_b_dup2 (hE := fe_129_34) (hv := rfl) (hu := rfl) (k := ?_)
      refine mj_b_ialdN (hE := fe_129_35) (c := 7) (hM := by assumption) (ht := Or.inr rfl) (hj := rfl) (hc := by decide) (hn := by decide) (v := S.2.2.1) (hv := c7) (k := ?_)
      refine mj_b_iload_n (hE := fe_129_36) (hv := rfl) (k := ?_)
      refine mj_b_iadd (hE := fe_129_37) (k := ?_)
      refine mj_b_iastN (hE := fe_129_38) (c := 7) (hM := by assumption) (hj := rfl) (hc := by decide) (hn := by decide)  (k := ?_)
      refine mj_b_bipush (hE := fe_129_39) (k := ?_)
      refine mj_b_rload_n (hE := fe_129_41) (hv := rfl) (k := ?_)
      refine mj_b_getQ (hE := fe_129_42) (hM := by assumption) (hv := by assumption) (k := ?_)
      refine mj_b_bipush (hE := fe_129_45) (k := ?_)
      refine mj_b_ialdN (hE := fe_129_47) (c := 6) (hM := by assumption) (ht := Or.inr rfl) (hj := rfl) (hc := by decide) (hn := by decide) (v := nI S.2.1.length) (hv := by simp [mj_u, b6]) (k := ?_)
      refine mj_b_iadd (hE := fe_129_48) (k := ?_)
      refine mj_b_istore_n (hE := fe_129_49) (hx := Nat.le_of_ble_eq_true rfl) (k := ?_)
      refine (show mj_T pj_P 129 50 [.ref 87, .int k, .int 0, .int (nI 9 + nI S.2.1.length)] [] _ _ from ?_)
      rw [nI_add]
      refine l129 (I0 := I1) (U := (rs, S.2.1, S.2.2.1 + k, S.2.2.2)) hm0 b66 ?_ S.2.1.length _ (Nat.le_refl _) (by dsimp only; rw [List.take_length, List.drop_length]; simpa using hu2) f2
      intro I2 v3 hu3 f3
      refine mj_b_rload_n (hE := fe_129_83) (hv := rfl) (k := ?_)
      refine mj_b_sipush (hE := fe_129_84) (k := ?_)
      refine mj_b_call (hE := fe_129_87) (hi := in_108) (h1 := hen.car (ms := ms) (Sx := x_tik S k) hm0 hr (Nat.le_succ n) f3 hu3 (wf_tik hr.2.1.pre hok3) hr.1 ?_ (by decide)) (hc := mj_cok_v rfl rfl h87) (ha := rfl) (hr := rfl) ?_
      · unfold m_fin a_fin x_tik
        dsimp only
        congr 1
        rw [List.filter_filter]
        refine List.filter_congr (fun l _ => ?_)
        unfold al_live tk_kp
        rw [ar_has_perm hr.1, Bool.and_comm]
      · intro v' M2 hpo
        obtain ⟨I3, rs2, hM, hrest⟩ := id hpo
        cases hM
        exact mj_b_retI (hE := fe_129_90) (hi := in_129) hpo
    all_goals
      rw [e, if_neg (by decide)]
      refine mj_b_istore_n (hE := fe_129_21) (hx := Nat.le_of_ble_eq_true rfl) (k := ?_)
      refine mj_b_iload_n (hE := fe_129_22) (hv := rfl) (k := ?_)
      refine mj_b_if1 (hE := fe_129_23) (kt := fun g => absurd g (by decide)) (kf := fun g => ?_)
      refine mj_b_iload_n (hE := fe_129_26) (hv := rfl) (k := ?_)
      exact mj_b_retI (hE := fe_129_27) (hi := in_129) (hrf _ e (by decide) (by decide))
  refine mj_enter in_129 (L := [.ref 87, .int k, .retAddr 0, .retAddr 0]) rfl ?_
  refine mj_b_rload_n (hE := fe_129_0) (hv := rfl) (k := ?_)
  refine mj_b_iload_n (hE := fe_129_1) (hv := rfl) (k := ?_)
  refine mj_b_if1 (hE := fe_129_2) (kt := fun h2 => ?_) (kf := fun h2 => ?_)
  · simp only [mj_cnd, decide_eq_true_eq, decide_eq_false_iff_not, Bool.not_eq_true', Bool.not_eq_false', pz_0, Bool.not_eq_false, Bool.not_eq_true] at h2
    refine mj_b_iconst (hE := fe_129_16) (k := ?_)
    exact p17 false (by simp [pf_from, h2])
  · simp only [mj_cnd, decide_eq_true_eq, decide_eq_false_iff_not, Bool.not_eq_true', Bool.not_eq_false', pz_0, Bool.not_eq_false, Bool.not_eq_true] at h2
    refine mj_b_iload_n (hE := fe_129_5) (hv := rfl) (k := ?_)
    refine mj_b_sipush (hE := fe_129_6) (k := ?_)
    refine mj_b_if2 (hE := fe_129_9) (kt := fun h9 => ?_) (kf := fun h9 => ?_)
    · simp only [mj_cnd, decide_eq_true_eq, decide_eq_false_iff_not, Bool.not_eq_true', Bool.not_eq_false', pz_0, Bool.not_eq_false, Bool.not_eq_true] at h9
      refine mj_b_iconst (hE := fe_129_16) (k := ?_)
      exact p17 false (by simp [pf_from, h2, h9])
    · simp only [mj_cnd, decide_eq_true_eq, decide_eq_false_iff_not, Bool.not_eq_true', Bool.not_eq_false', pz_0, Bool.not_eq_false, Bool.not_eq_true] at h9
      refine mj_b_iconst (hE := fe_129_12) (k := ?_)
      refine mj_b_goto (hE := fe_129_13) (k := ?_)
      exact p17 true (by simp [pf_from, h2, h9])
/-- a lock whose end is reached, and a lock that goes -/
theorem unl_fin {ls : List ty_lk} {j : Nat} {qs : List ty_rw} {ck : Int32} (hj : j < ls.length) (hl : ∀ l ∈ ls, ck < l.2.2.1) : (al_set ls j ck).filter (al_live qs ck) = (ls.eraseIdx j).filter (fun l => ar_has qs l.2.1) := by
  have hlive : ∀ l ∈ ls, al_live qs ck l = ar_has qs l.2.1 := by
    intro l h
    unfold al_live
    rw [decide_eq_false (i32_lt_nle (hl l h))]
    rfl
  have hdead : ∀ l, al_live qs ck (lk_end ck l) = false := by
    intro l
    have : ck ≤ ck := by rw [Int32.le_iff_toInt_le]; omega
    simp [al_live, lk_end, this]
  unfold al_set
  rw [List.getElem?_eq_getElem hj]
  dsimp only
  have e1 : ls.set j (lk_end ck ls[j]) = ls.take j ++ lk_end ck ls[j] :: ls.drop (j + 1) := by
    rw [List.set_eq_take_append_cons_drop, if_pos hj]
  have e2 : ls.eraseIdx j = ls.take j ++ ls.drop (j + 1) := List.eraseIdx_eq_take_drop_succ _ _
  rw [e1, e2, List.filter_append, List.filter_append, List.filter_cons, hdead]
  simp only [Bool.false_eq_true, if_false]
  congr 1
  · exact List.filter_congr (fun l h => hlive l (List.mem_of_mem_take h))
  · exact List.filter_congr (fun l h => hlive l (List.mem_of_mem_drop h))
theorem al_tk_eq : ∀ {ls : List ty_lk} (t p : Int32), al_nd ls → ls.findIdx? (fun l => decide (l.1 = t) && a_cov p l) = al_tk ls t p := by
  intro ls
  induction ls with
  | nil => intro t p _; rfl
  | cons a ls ih =>
    intro t p h
    obtain ⟨h1, h2⟩ := List.pairwise_cons.mp h
    rw [List.findIdx?_cons]
    unfold al_tk al_fi
    rw [List.findIdx?_cons]
    by_cases ht : a.1 = t
    · simp only [ht, decide_true, Bool.true_and, if_true, List.getElem?_cons_zero]
      cases hc : a_cov p a
      · simp only [Bool.false_eq_true, if_false]
        have : ls.findIdx? (fun l => decide (l.1 = t) && a_cov p l) = none := by
          rw [List.findIdx?_eq_none_iff]
          intro x hx
          have := h1 x hx
          rw [ht] at this
          simp [Ne.symm this]
        rw [this]
        rfl
      · rfl
    · simp only [ht, decide_false, Bool.false_and, Bool.false_eq_true, if_false]
      rw [ih t p h2]
      unfold al_tk al_fi
      cases hf : ls.findIdx? (fun l => decide (l.1 = t)) with
      | none => rfl
      | some j =>
        simp only [Option.map_some, List.getElem?_cons_succ]
        cases ls[j]? with
        | none => rfl
        | some l => dsimp only; split <;> rfl
set_option maxHeartbeats 4000000 in
/-- LockedTreeModel.unlock -/
theorem g128 (p t : Int32) (hm : mm_ok R) (h : m_all (rs, S.2) hs f w ms I) (hr : m_rel n S H f rs hs) :
    mj_G pj_P 128 [.ref 87, .int p, .int t] (mz_SH L, I, R) (mo_post L I R (o_unl S H f w ms p t)) := by
  have hm0 := hm
  obtain ⟨q0, q1, q2, q3, q4, q5, q6, q7, q8, q9, q10, q11, q16, q21⟩ := hm
  have h87 := sm_87 L
  have h93 := sm_93 L
  have h98 := sm_98 L
  have h6 := hr.2.1.2.1.2.1
  refine mj_enter in_128 (L := [.ref 87, .int p, .int t, .retAddr 0, .retAddr 0]) rfl ?_
  refine mj_b_rload_n (hE := fe_128_0) (hv := rfl) (k := ?_)
  refine mj_b_iload_n (hE := fe_128_1) (hv := rfl) (k := ?_)
  refine mj_b_callR (hE := fe_128_2) (hi := in_92) (h1 := g92 _ _) (hc := mj_cok_s rfl) (ha := rfl) (hr := rfl) ?_
  refine mj_b_iload_n (hE := fe_128_5) (hv := rfl) (k := ?_)
  refine mj_b_call (hE := fe_128_6) (hi := in_93) (h1 := g93S p (pf_path p) hm0 h hr) (hc := mj_cok_v rfl rfl h87) (ha := rfl) (hr := rfl) ?_
  rintro v' M1 ⟨I1, hM, fM, hall, hb, hop⟩
  cases hM
  have hrf : ∀ c, a_fstR S.1 S.2.1 H p (pf_path p) = c → c ≠ -1 → c ≠ 207 → mo_post L I R (o_unl S H f w ms p t) (some (.int c), (mz_SH L, I1, R)) := by
    intro c hc h1 h2
    have e : o_unl S H f w ms p t = o_ref S w ms c := by unfold o_unl o_ans; rw [hc, if_neg h1]
    rw [e]
    exact mo_ref hr hall fM h2
  rcases a_fst_cases S H p (pf_path p) with e | e | e
  · obtain ⟨hu, ts, hsb, hsub⟩ := hop e
    have hen : m_env S H f w rs ts I I1 := ⟨fM, hall, hb, hu, hsb, hsub⟩
    have n1 := hen.n1
    have hpo : o_unl S H f w ms p t = (match al_tk S.2.1 t p with
      | none => o_ref S w ms 409
      | some j => o_car S f w ms (x_end S j S.2.2.1) 204) := by unfold o_unl o_ans; rw [if_pos e]; all_goals (cases al_tk S.2.1 t p <;> rfl)
    rw [hpo, ← al_tk_eq t p hr.ndL, e, if_pos rfl]
    have loop : ∀ (k i : Nat), i + k = S.2.1.length → S.2.1.findIdx? (fun l => decide (l.1 = t) && a_cov p l) = ((S.2.1.drop i).findIdx? (fun l => decide (l.1 = t) && a_cov p l)).map (fun j => i + j) → mj_T pj_P 128 19 [.ref 87, .int p, .int t, .int 0, .int (nI i)] [] (mz_SH L, I1, R) (mo_post L I R (match S.2.1.findIdx? (fun l => decide (l.1 = t) && a_cov p l) with
      | none => o_ref S w ms 409
      | some j => o_car S f w ms (x_end S j S.2.2.1) 204)) := by
      intro k
      induction k with
      | zero =>
        intro i hi hfi
        have hin : i = S.2.1.length := by omega
        subst hin
        rw [List.drop_length] at hfi
        simp only [List.findIdx?_nil, Option.map_none] at hfi
        rw [hfi]
        refine mj_b_iload (hE := fe_128_19) (hv := rfl) (k := ?_)
        refine mj_b_rload_n (hE := fe_128_21) (hv := rfl) (k := ?_)
        refine mj_b_getQ (hE := fe_128_22) (hM := by assumption) (hv := by assumption) (k := ?_)
        refine mj_b_iconst (hE := fe_128_25) (k := ?_)
        refine mj_b_ialdN (hE := fe_128_26) (c := 1) (hM := by assumption) (ht := Or.inr rfl) (hj := rfl) (hc := by decide) (hn := by decide) (hv := by first | assumption | rfl) (k := ?_)
        refine mj_b_if2 (hE := fe_128_27) (kt := fun g => ?_) (kf := fun g => ?_)
        · refine mj_b_sipush (hE := fe_128_74) (k := ?_)
          exact mj_b_retI (hE := fe_128_77) (hi := in_128) (mo_ref hr hall fM (by decide))
        · simp [mj_cnd] at g
      | succ k ih =>
        intro i hi hfi
        have hlt : i < S.2.1.length := by omega
        have hgi : S.2.1[i]? = some S.2.1[i] := List.getElem?_eq_getElem hlt
        obtain ⟨e0, -⟩ := hall.1.2.2.2.2.1 i _ hgi
        rw [Nat.mul_zero, Nat.zero_add] at e0
        have gc := hall.1.cv (L := L) hgi p hm0
        rw [Nat.mul_zero, Nat.zero_add] at gc
        rw [drop_get hlt, List.findIdx?_cons] at hfi
        have hnx : (decide ((S.2.1[i]).1 = t) && a_cov p S.2.1[i]) = false → mj_T pj_P 128 68 [.ref 87, .int p, .int t, .int 0, .int (nI i)] [] (mz_SH L, I1, R) (mo_post L I R (match S.2.1.findIdx? (fun l => decide (l.1 = t) && a_cov p l) with
          | none => o_ref S w ms 409
          | some j => o_car S f w ms (x_end S j S.2.2.1) 204)) := by
          intro hno
          refine mj_b_iinc (hE := fe_128_68) (hv := rfl) (k := ?_)
          refine mj_b_goto (hE := fe_128_71) (k := ?_)
          refine (show mj_T pj_P 128 19 [.ref 87, .int p, .int t, .int 0, .int (nI i + 1)] [] (mz_SH L, I1, R) _ from ?_)
          rw [← nI_succ]
          refine ih (i + 1) (by omega) ?_
          rw [hfi, hno]
          simp only [Bool.false_eq_true, if_false, Option.map_map]
          congr 1
          funext j
          simp only [Function.comp]
          omega
        refine mj_b_iload (hE := fe_128_19) (hv := rfl) (k := ?_)
        refine mj_b_rload_n (hE := fe_128_21) (hv := rfl) (k := ?_)
        refine mj_b_getQ (hE := fe_128_22) (hM := by assumption) (hv := by assumption) (k := ?_)
        refine mj_b_iconst (hE := fe_128_25) (k := ?_)
        refine mj_b_ialdN (hE := fe_128_26) (c := 1) (hM := by assumption) (ht := Or.inr rfl) (hj := rfl) (hc := by decide) (hn := by decide) (hv := by first | assumption | rfl) (k := ?_)
        refine mj_b_if2 (hE := fe_128_27) (kt := fun g => ?_) (kf := fun g => ?_)
        · simp only [mj_cnd, decide_eq_true_eq] at g
          exact absurd g (nI_ge (by omega) (by omega))
        · refine mj_b_rload_n (hE := fe_128_30) (hv := rfl) (k := ?_)
          refine mj_b_getQ (hE := fe_128_31) (hM := by assumption) (hv := by assumption) (k := ?_)
          refine mj_b_iload (hE := fe_128_34) (hv := rfl) (k := ?_)
          refine mj_b_ialdN (hE := fe_128_36) (hM := h93) (ht := Or.inr rfl) (hj := rfl) (hc := by omega) (hn := by decide) (hv := e0) (k := ?_)
          refine mj_b_iload_n (hE := fe_128_37) (hv := rfl) (k := ?_)
          refine mj_b_if2 (hE := fe_128_38) (kt := fun k1 => ?_) (kf := fun k1 => ?_)
          · simp only [mj_cnd, Bool.not_eq_true', decide_eq_false_iff_not] at k1
            exact hnx (by simp [k1])
          · simp only [mj_cnd, Bool.not_eq_false', decide_eq_true_eq] at k1
            refine mj_b_rload_n (hE := fe_128_41) (hv := rfl) (k := ?_)
            refine mj_b_iload (hE := fe_128_42) (hv := rfl) (k := ?_)
            refine mj_b_iload_n (hE := fe_128_44) (hv := rfl) (k := ?_)
            refine mj_b_callR (hE := fe_128_45) (hi := in_99) (h1 := gc) (hc := mj_cok_v rfl rfl h87) (ha := rfl) (hr := rfl) ?_
            refine mj_b_if1 (hE := fe_128_48) (kt := fun k2 => ?_) (kf := fun k2 => ?_)
            · simp only [mj_cnd, decide_eq_true_eq, pz_0] at k2
              exact hnx (by simp [k2])
            · simp only [mj_cnd, decide_eq_false_iff_not, pz_0, Bool.not_eq_false] at k2
              have hyes : (decide ((S.2.1[i]).1 = t) && a_cov p S.2.1[i]) = true := by simp [k1, k2]
              rw [hyes] at hfi
              simp only [if_true, Option.map_some, Nat.add_zero] at hfi
              rw [hfi]
              dsimp only
              refine mj_b_rload_n (hE := fe_128_51) (hv := rfl) (k := ?_)
              refine mj_b_bipush (hE := fe_128_52) (k := ?_)
              refine mj_b_iload (hE := fe_128_54) (hv := rfl) (k := ?_)
              refine mj_b_iadd (hE := fe_128_56) (k := ?_)
              refine (show mj_T pj_P 128 57 [.ref 87, .int p, .int t, .int 0, .int (nI i)] [.int (nI 10 + nI i), .ref 87] _ _ from ?_)
              rw [nI_add]
              refine mj_b_call (hE := fe_128_57) (hi := in_109) (h1 := g109 (i := i) hm0 hu hlt) (hc := mj_cok_v rfl rfl h87) (ha := rfl) (hr := rfl) ?_
              rintro v' M1 ⟨I2, hM, hu2, f2⟩
              cases hM
              refine (show mj_T pj_P 128 60 [.ref 87, .int p, .int t, .int 0, .int (nI i)] [] (mz_SH L, I2, R) _ from ?_)
              refine mj_b_rload_n (hE := fe_128_60) (hv := rfl) (k := ?_)
              refine mj_b_sipush (hE := fe_128_61) (k := ?_)
              refine mj_b_call (hE := fe_128_64) (hi := in_108) (h1 := hen.car (ms := ms) (Sx := x_end S i S.2.2.1) hm0 hr (Nat.le_refl _) f2 hu2 (wf_end hr.2.1.pre i S.2.2.1) hr.1 ?_ (by decide)) (hc := mj_cok_v rfl rfl h87) (ha := rfl) (hr := rfl) ?_
              · unfold m_fin a_fin x_end
                dsimp only
                rw [unl_fin hlt hr.live]
                congr 1
                refine List.filter_congr (fun l _ => ?_)
                rw [ar_has_perm hr.1]
              · intro v' M2 hpo
                obtain ⟨I3, rs2, hM, hrest⟩ := id hpo
                cases hM
                exact mj_b_retI (hE := fe_128_67) (hi := in_128) hpo
    refine (show mj_T pj_P 128 9 [.ref 87, .int p, .int t, .retAddr 0, .retAddr 0] [.int 0] (mz_SH L, I1, R) _ from ?_)
    refine mj_b_istore_n (hE := fe_128_9) (hx := Nat.le_of_ble_eq_true rfl) (k := ?_)
    refine mj_b_iload_n (hE := fe_128_10) (hv := rfl) (k := ?_)
    refine mj_b_if1 (hE := fe_128_11) (kt := fun g => ?_) (kf := fun g => absurd g (by decide))
    refine mj_b_iconst (hE := fe_128_16) (k := ?_)
    refine mj_b_istore (hE := fe_128_17) (hx := Nat.le_of_ble_eq_true rfl) (k := ?_)
    exact loop S.2.1.length 0 (by omega) (by simp)
  all_goals
    rw [e, if_neg (by decide)]
    refine mj_b_istore_n (hE := fe_128_9) (hx := Nat.le_of_ble_eq_true rfl) (k := ?_)
    refine mj_b_iload_n (hE := fe_128_10) (hv := rfl) (k := ?_)
    refine mj_b_if1 (hE := fe_128_11) (kt := fun g => absurd g (by decide)) (kf := fun g => ?_)
    refine mj_b_iload_n (hE := fe_128_14) (hv := rfl) (k := ?_)
    exact mj_b_retI (hE := fe_128_15) (hi := in_128) (hrf _ e (by decide) (by decide))
end NE
