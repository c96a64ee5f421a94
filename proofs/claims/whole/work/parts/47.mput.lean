/-! ===== the model: put, mkcol ===== -/
section NC
variable {L n : Nat} {S Sx : ty_st} {H : ty_hd} {rs : List ty_rw} {U : ty_st} {ts hs ms : List Int32} {f w : Int32} {I I' I0 : Nat → Nat → Int32} {R : Nat → Nat → Option Nat} {Q : Option Value × mj_H → Prop} {z : Int32 × Int32}
theorem pf_from_gt {x a b : Int32} : pf_from x a b = (!decide (x < a) && decide (x ≤ b)) := by
  unfold pf_from
  congr 1
  rw [Bool.eq_iff_iff]
  simp only [Bool.not_eq_true', decide_eq_false_iff_not, decide_eq_true_eq]
  rw [Int32.lt_iff_toInt_lt, Int32.le_iff_toInt_le]
  omega
/-- a row of the second side gets another body and stamp -/
theorem md_rep.bst {j : Nat} {r : ty_rw} (h : md_rep 1 U I) (hj : U.1[j]? = some r) (b v : Int32) (hv : v + 1 = v + 1) : md_rep 1 (U.1.set j (r.1, r.2.1, b, v, r.2.2.2.2), U.2.1, U.2.2.1, v + 1, U.2.2.2.2) (mj_u (mj_u (mj_u I 98 8 v) 90 (20 + j) b) 91 (20 + j) v) ∧ fr_2 I (mj_u (mj_u (mj_u I 98 8 v) 90 (20 + j) b) 91 (20 + j) v) := by
  obtain ⟨h0, ⟨a1, a2⟩, ⟨b1, b2⟩, hr, hl, c1, c2, c3⟩ := h
  simp only [Nat.mul_one, Nat.reduceAdd] at a1 b1 hr hl c1 c2 c3
  have hjl := (List.getElem?_eq_some_iff.mp hj).1
  refine ⟨⟨h0, ⟨?_, by simpa using a2⟩, ⟨?_, b2⟩, ?_, ?_, ?_, ?_, ?_⟩, ?_⟩
  · simp [mj_u, a1]
  · simp [mj_u, b1]
  · intro i q hi
    simp only [Nat.mul_one]
    dsimp only at hi
    rw [List.getElem?_set] at hi
    by_cases hij : j = i
    · subst hij
      simp [hjl] at hi
      obtain ⟨k0, k1, k2, k3, k4, k5, k6⟩ := hr j r hj
      rw [← hi]
      exact ⟨by simp [mj_u, k0], by simp [mj_u, k1], by simp [mj_u], by simp [mj_u], by simp [mj_u, k4], by simp [mj_u, k5], by simp [mj_u, k6]⟩
    · simp [hij] at hi
      obtain ⟨k0, k1, k2, k3, k4, k5, k6⟩ := hr i q hi
      have hne : ¬ i = j := fun e => hij e.symm
      exact ⟨by simp [mj_u, k0], by simp [mj_u, k1], by simp [mj_u, k2, hne], by simp [mj_u, k3, hne], by simp [mj_u, k4], by simp [mj_u, k5], by simp [mj_u, k6]⟩
  · intro i l hi
    simp only [Nat.mul_one]
    exact (hl i l hi).eq (fun x k h1 h2 => by rw [mj_u_na _ _ _ _ (by omega), mj_u_na _ _ _ _ (by omega), mj_u_na _ _ _ _ (by omega)])
  · simp [mj_u, c1]
  · simp [mj_u]
  · simp [mj_u, c3]
  · intro x k h1 h2 h3 h4
    have e1 : ¬ (x = 98 ∧ k = 8) := by omega
    have e2 : ¬ (x = 90 ∧ k = 20 + j) := by omega
    have e3 : ¬ (x = 91 ∧ k = 20 + j) := by omega
    simp only [mj_u, e1, e2, e3, if_false]
set_option maxHeartbeats 4000000 in
/-- LockedTreeModel.put -/
theorem g91 (p b : Int32) (hm : mm_ok R) (h : m_all (rs, S.2) hs f w ms I) (hr : m_rel n S H f rs hs) :
    mj_G pj_P 91 [.ref 87, .int p, .int b] (mz_SH L, I, R) (mo_post L I R (o_put S H f w ms p b)) := by
  have hm0 := hm
  obtain ⟨q0, q1, q2, q3, q4, q5, q6, q7, q8, q9, q10, q11, q16, q21⟩ := hm
  have h87 := sm_87 L
  have h90 := sm_90 L
  have h91 := sm_91 L
  have h98 := sm_98 L
  have hn := hr.nd
  have hnT := hr.ndT
  have h13 := hr.2.1.1.2.1
  have hlen := hr.len
  have p23 : ∀ ok : Bool, ok = (pf_path p && pf_from b 0 999999) → mj_T pj_P 91 23 [.ref 87, .int p, .int b, .retAddr 0, .retAddr 0, .retAddr 0] [.int (pz ok), .ref 87] (mz_SH L, I, R) (mo_post L I R (o_put S H f w ms p b)) := by
    intro ok hok
    refine mj_b_iload_n (hE := fe_91_23) (hv := rfl) (k := ?_)
    refine mj_b_call (hE := fe_91_24) (hi := in_93) (h1 := g93S p ok hm0 h hr) (hc := mj_cok_v rfl rfl h87) (ha := rfl) (hr := rfl) ?_
    rintro v' M1 ⟨I1, hM, fM, hall, hb, hop⟩
    cases hM
    have hrf : ∀ c, a_two (a_fstR S.1 S.2.1 H p ok) (a_putR S.1 S.2.1 (a_sub H.1) p) = c → c ≠ -1 → c ≠ 207 → mo_post L I R (o_put S H f w ms p b) (some (.int c), (mz_SH L, I1, R)) := by
      intro c hc h1 h2
      have e : o_put S H f w ms p b = o_ref S w ms c := by unfold o_put o_ans; rw [← hok, hc, if_neg h1]
      rw [e]
      exact mo_ref hr hall fM h2
    rcases a_fst_cases S H p ok with e | e | e
    · have hrf2 : ∀ c, a_putR S.1 S.2.1 (a_sub H.1) p = c → c ≠ -1 → c ≠ 207 → mo_post L I R (o_put S H f w ms p b) (some (.int c), (mz_SH L, I1, R)) := fun c hc h1 h2 => hrf c (by unfold a_two; rw [if_pos e]; exact hc) h1 h2
      have hcar : a_putR S.1 S.2.1 (a_sub H.1) p = -1 → o_put S H f w ms p b = o_car S f w ms (x_put S p b) (if ar_has S.1 p = true then 204 else 201) := by
        intro hc
        unfold o_put o_ans a_two
        rw [← hok, if_pos e, if_pos hc]
      obtain ⟨hu, ts, hsb, hsub⟩ := hop e
      have hpp : pf_path p = true := by
        have := a_fstR_ok e
        rw [hok, Bool.and_eq_true] at this
        exact this.1
      have hpos := m_pos (s := 0) (Or.inl rfl) (by omega) hr.1 p
      rw [Nat.mul_zero] at hpos
      have g101c := g101' (L := L) (s := 0) p hm0 hall.1 hnT
      have g104c : ∀ q, mj_G pj_P 104 [.ref 87, .int q] (mz_SH L, I1, R) (fun r => r = (some (.int (pz (a_coll S.1 q))), (mz_SH L, I1, R))) := by
        intro q
        have := g104' (L := L) q hm0 hall.1 hnT
        dsimp only at this
        rwa [a_coll_perm hr.1 hn] at this
      have g105c : ∀ q, mj_G pj_P 105 [.ref 87, .int q] (mz_SH L, I1, R) (fun r => r = (some (.int (pz (a_bar S.2.1 (a_sub H.1) q))), (mz_SH L, I1, R))) := by
        intro q
        have := g105' (L := L) q hm0 hall.1 hsb
        rwa [hsub] at this
      have n0 : I1 98 0 = nI S.1.length := by
        have := hall.1.2.1.1
        rw [Nat.mul_zero] at this
        rw [this]
        dsimp only
        rw [hlen]
      rw [e, if_pos rfl]
      generalize hfd : mv_ix 0 (ar_fi rs p) = fd at hpos
      rw [Nat.mul_zero] at g101c
      dsimp only at g101c
      rw [hfd] at g101c
      refine (show mj_T pj_P 91 27 [.ref 87, .int p, .int b, .retAddr 0, .retAddr 0, .retAddr 0] [.int 0] (mz_SH L, I1, R) _ from ?_)
      refine mj_b_istore_n (hE := fe_91_27) (hx := Nat.le_of_ble_eq_true rfl) (k := ?_)
      refine mj_b_iload_n (hE := fe_91_28) (hv := rfl) (k := ?_)
      refine mj_b_if1 (hE := fe_91_29) (kt := fun g => ?_) (kf := fun g => ?_)
      · refine mj_b_rload_n (hE := fe_91_34) (hv := rfl) (k := ?_)
        refine mj_b_iload_n (hE := fe_91_35) (hv := rfl) (k := ?_)
        refine mj_b_iconst (hE := fe_91_36) (k := ?_)
        refine mj_b_callR (hE := fe_91_37) (hi := in_101) (h1 := g101c) (hc := mj_cok_v rfl rfl h87) (ha := rfl) (hr := rfl) ?_
        refine mj_b_istore (hE := fe_91_40) (hx := Nat.le_of_ble_eq_true rfl) (k := ?_)
        refine mj_b_rload_n (hE := fe_91_42) (hv := rfl) (k := ?_)
        refine mj_b_iload_n (hE := fe_91_43) (hv := rfl) (k := ?_)
        refine mj_b_callR (hE := fe_91_44) (hi := in_104) (h1 := g104c p) (hc := mj_cok_v rfl rfl h87) (ha := rfl) (hr := rfl) ?_
        refine mj_b_if1 (hE := fe_91_47) (kt := fun k1 => ?_) (kf := fun k1 => ?_)
        · simp only [mj_cnd, decide_eq_true_eq, pz_0] at k1
          refine mj_b_rload_n (hE := fe_91_54) (hv := rfl) (k := ?_)
          refine mj_b_iload_n (hE := fe_91_55) (hv := rfl) (k := ?_)
          refine mj_b_bipush (hE := fe_91_56) (k := ?_)
          refine mj_b_idiv (hE := fe_91_58) (hb := by decide) (k := ?_)
          refine mj_b_callR (hE := fe_91_59) (hi := in_104) (h1 := g104c (p / 8)) (hc := mj_cok_v rfl rfl h87) (ha := rfl) (hr := rfl) ?_
          refine mj_b_if1 (hE := fe_91_62) (kt := fun k2 => ?_) (kf := fun k2 => ?_)
          · simp only [mj_cnd, Bool.not_eq_true', decide_eq_false_iff_not, pz_0, Bool.not_eq_false] at k2
            have p93 : (a_bar S.2.1 (a_sub H.1) p = true ∨ (ar_has S.1 p = false ∧ a_bar S.2.1 (a_sub H.1) (p / 8) = true)) → ∀ Lc, mj_T pj_P 91 93 Lc [] (mz_SH L, I1, R) (mo_post L I R (o_put S H f w ms p b)) := by
              intro hbar Lc
              refine mj_b_sipush (hE := fe_91_93) (k := ?_)
              exact mj_b_retI (hE := fe_91_96) (hi := in_91) (hrf2 423 (by unfold a_putR; rw [if_neg (by rw [k1]; decide), if_neg (by rw [k2]; decide), if_pos hbar]) (by decide) (by decide))
            have p117 : ¬ (a_bar S.2.1 (a_sub H.1) p = true ∨ (ar_has S.1 p = false ∧ a_bar S.2.1 (a_sub H.1) (p / 8) = true)) → (ar_has S.1 p = false → S.1.length < 13) → mj_T pj_P 91 117 [.ref 87, .int p, .int b, .int 0, .int fd, .retAddr 0] [] (mz_SH L, I1, R) (mo_post L I R (o_put S H f w ms p b)) := by
              intro hbar hroom
              have hok2 : a_putR S.1 S.2.1 (a_sub H.1) p = -1 := by
                unfold a_putR
                rw [if_neg (by rw [k1]; decide), if_neg (by rw [k2]; decide), if_neg hbar, if_neg]
                rintro ⟨r1, r2⟩
                have := hroom r1
                omega
              rw [hcar hok2]
              have hwp := wf_put (b := b) hr.2.1.pre hpp hroom
              refine mj_b_iload (hE := fe_91_117) (hv := rfl) (k := ?_)
              refine mj_b_if1 (hE := fe_91_119) (kt := fun k3 => ?_) (kf := fun k3 => ?_)
              · simp only [mj_cnd, decide_eq_true_eq] at k3
                rw [hpos] at k3
                rw [k3, if_pos rfl]
                have g101d := g101' (L := L) (s := 1) p hm0 hu hnT
                have hhr : ar_has rs p = true := by rw [ar_has_perm hr.1]; exact k3
                have hfs := ar_fi_has rs p
                rw [hhr] at hfs
                obtain ⟨j, hj⟩ := Option.isSome_iff_exists.mp hfs
                obtain ⟨r, hjr, hrp⟩ := ar_fi_some hj
                have hjl := (List.getElem?_eq_some_iff.mp hjr).1
                dsimp only at g101d
                rw [hj] at g101d
                have c2 := hu.2.2.2.2.2.2.1
                simp only [Nat.mul_one, Nat.reduceAdd] at c2
                obtain ⟨hb1, hb2⟩ := hu.bst (j := j) (r := r) hjr b S.2.2.2.1 rfl
                refine mj_b_rload_n (hE := fe_91_137) (hv := rfl) (k := ?_)
                refine mj_b_iload_n (hE := fe_91_138) (hv := rfl) (k := ?_)
                refine mj_b_bipush (hE := fe_91_139) (k := ?_)
                refine mj_b_callR (hE := fe_91_141) (hi := in_101) (h1 := g101d) (hc := mj_cok_v rfl rfl h87) (ha := rfl) (hr := rfl) ?_
                refine (show mj_T pj_P 91 144 _ [.int (nI (20 + j))] _ _ from ?_)
                refine mj_b_istore (hE := fe_91_144) (hx := Nat.le_of_ble_eq_true rfl) (k := ?_)
                refine mj_b_rload_n (hE := fe_91_146) (hv := rfl) (k := ?_)
                refine mj_b_getQ (hE := fe_91_147) (hM := by assumption) (hv := by assumption) (k := ?_)
                refine mj_b_bipush (hE := fe_91_150) (k := ?_)
                refine mj_b_dup2 (hE := fe_91_152) (hv := rfl) (hu := rfl) (k := ?_)
                refine mj_b_ialdN (hE := fe_91_153) (c := 8) (hM := by assumption) (ht := Or.inr rfl) (hj := rfl) (hc := by decide) (hn := by decide) (v := I1 98 8) (hv := rfl) (k := ?_)
                refine mj_b_iconst (hE := fe_91_154) (k := ?_)
                refine mj_b_iadd (hE := fe_91_155) (k := ?_)
                refine mj_b_iastN (hE := fe_91_156) (c := 8) (hM := by assumption) (hj := rfl) (hc := by decide) (hn := by decide)  (k := ?_)
                rw [c2]
                refine mj_b_rload_n (hE := fe_91_157) (hv := rfl) (k := ?_)
                refine mj_b_getQ (hE := fe_91_158) (hM := by assumption) (hv := by assumption) (k := ?_)
                refine mj_b_iload (hE := fe_91_161) (hv := rfl) (k := ?_)
                refine mj_b_iload_n (hE := fe_91_163) (hv := rfl) (k := ?_)
                refine mj_b_iastN (hE := fe_91_164) (hM := h90) (hj := rfl) (hc := by omega) (hn := by decide) (k := ?_)
                refine mj_b_rload_n (hE := fe_91_165) (hv := rfl) (k := ?_)
                refine mj_b_getQ (hE := fe_91_166) (hM := by assumption) (hv := by assumption) (k := ?_)
                refine mj_b_iload (hE := fe_91_169) (hv := rfl) (k := ?_)
                refine mj_b_rload_n (hE := fe_91_171) (hv := rfl) (k := ?_)
                refine mj_b_getQ (hE := fe_91_172) (hM := by assumption) (hv := by assumption) (k := ?_)
                refine mj_b_bipush (hE := fe_91_175) (k := ?_)
                refine mj_b_ialdN (hE := fe_91_177) (c := 8) (hM := by assumption) (ht := Or.inr rfl) (hj := rfl) (hc := by decide) (hn := by decide) (v := S.2.2.2.1) (hv := by simp [mj_u]) (k := ?_)
                refine mj_b_iastN (hE := fe_91_178) (hM := h91) (hj := rfl) (hc := by omega) (hn := by decide) (k := ?_)
                refine mj_b_rload_n (hE := fe_91_179) (hv := rfl) (k := ?_)
                refine mj_b_sipush (hE := fe_91_180) (k := ?_)
                refine mj_b_call (hE := fe_91_183) (hi := in_108) (h1 := g108S (ms := ms) (I := I) (Sx := x_put S p b) hm0 hr (hall.two hb2) (fM.trans hb2.M) (by rw [hb2 _ _ (by omega) (by omega) (by omega) (by omega)]; exact hb) hb1 hwp ?_ ?_ (by decide)) (hc := mj_cok_v rfl rfl h87) (ha := rfl) (hr := rfl) ?_
                · unfold x_put
                  rw [k3, if_pos rfl]
                  dsimp only
                  rw [ar_upd_set (g := fun r => (r.1, r.2.1, b, S.2.2.2.1, r.2.2.2.2)) rs j r hnT hjr hrp]
                  exact ar_upd_perm hr.1
                · refine fin_same ?_ ?_ hr.live
                  · unfold x_put
                    rw [k3, if_pos rfl]
                    dsimp only
                    rw [ar_upd_set (g := fun r => (r.1, r.2.1, b, S.2.2.2.1, r.2.2.2.2)) rs j r hnT hjr hrp]
                    exact ar_upd_perm hr.1
                  · rfl
                · intro v' M2 hpo
                  obtain ⟨I2, rs2, hM, hrest⟩ := id hpo
                  cases hM
                  exact mj_b_retI (hE := fe_91_186) (hi := in_91) hpo
              · simp only [mj_cnd, decide_eq_false_iff_not] at k3
                rw [hpos, Bool.not_eq_true] at k3
                rw [k3, if_neg (by decide)]
                refine mj_b_rload_n (hE := fe_91_122) (hv := rfl) (k := ?_)
                refine mj_b_iload_n (hE := fe_91_123) (hv := rfl) (k := ?_)
                refine mj_b_iconst (hE := fe_91_124) (k := ?_)
                refine mj_b_iload_n (hE := fe_91_125) (hv := rfl) (k := ?_)
                refine mj_b_call (hE := fe_91_126) (hi := in_107) (h1 := g107 p false b hm0 hu (by dsimp only; rw [hlen]; exact hroom k3)) (hc := mj_cok_v rfl rfl h87) (ha := rfl) (hr := rfl) ?_
                rintro v' M1 ⟨I2, hM, hu2, f2⟩
                cases hM
                refine (show mj_T pj_P 91 129 [.ref 87, .int p, .int b, .int 0, .int fd, .retAddr 0] [] (mz_SH L, I2, R) _ from ?_)
                have hxp : (rs ++ [(p, 1, b, S.2.2.2.1, 0, 0, 0)]).Perm (x_put S p b).1 := by
                  unfold x_put
                  rw [k3, if_neg (by decide)]
                  exact ((List.perm_append_singleton _ _).trans (List.Perm.cons _ hr.1)).trans (ar_ins_perm _ _).symm
                refine mj_b_rload_n (hE := fe_91_129) (hv := rfl) (k := ?_)
                refine mj_b_sipush (hE := fe_91_130) (k := ?_)
                refine mj_b_call (hE := fe_91_133) (hi := in_108) (h1 := g108S (ms := ms) (I := I) (Sx := x_put S p b) hm0 hr (hall.two f2) (fM.trans f2.M) (by rw [f2 _ _ (by omega) (by omega) (by omega) (by omega)]; exact hb) hu2 hwp hxp (fin_same hxp rfl hr.live) (by decide)) (hc := mj_cok_v rfl rfl h87) (ha := rfl) (hr := rfl) ?_
                intro v' M2 hpo
                obtain ⟨I3, rs2, hM, hrest⟩ := id hpo
                cases hM
                exact mj_b_retI (hE := fe_91_136) (hi := in_91) hpo
            have p97 : ¬ (a_bar S.2.1 (a_sub H.1) p = true ∨ (ar_has S.1 p = false ∧ a_bar S.2.1 (a_sub H.1) (p / 8) = true)) → mj_T pj_P 91 97 [.ref 87, .int p, .int b, .int 0, .int fd, .retAddr 0] [] (mz_SH L, I1, R) (mo_post L I R (o_put S H f w ms p b)) := by
              intro hbar
              refine mj_b_iload (hE := fe_91_97) (hv := rfl) (k := ?_)
              refine mj_b_if1 (hE := fe_91_99) (kt := fun k3 => ?_) (kf := fun k3 => ?_)
              · simp only [mj_cnd, decide_eq_true_eq] at k3
                rw [hpos] at k3
                exact p117 hbar (fun e2 => by rw [k3] at e2; cases e2)
              · simp only [mj_cnd, decide_eq_false_iff_not] at k3
                rw [hpos, Bool.not_eq_true] at k3
                refine mj_b_rload_n (hE := fe_91_102) (hv := rfl) (k := ?_)
                refine mj_b_getQ (hE := fe_91_103) (hM := by assumption) (hv := by assumption) (k := ?_)
                refine mj_b_iconst (hE := fe_91_106) (k := ?_)
                refine mj_b_ialdN (hE := fe_91_107) (c := 0) (hM := by assumption) (ht := Or.inr rfl) (hj := rfl) (hc := by decide) (hn := by decide) (hv := by first | assumption | rfl) (k := ?_)
                refine mj_b_bipush (hE := fe_91_108) (k := ?_)
                refine mj_b_if2 (hE := fe_91_110) (kt := fun k4 => ?_) (kf := fun k4 => ?_)
                · simp only [mj_cnd, decide_eq_true_eq] at k4
                  rw [show (13 : Int32) = nI 13 from rfl, nI_lt_iff (by omega) (by omega)] at k4
                  exact p117 hbar (fun _ => k4)
                · simp only [mj_cnd, decide_eq_false_iff_not] at k4
                  rw [show (13 : Int32) = nI 13 from rfl, nI_lt_iff (by omega) (by omega)] at k4
                  refine mj_b_sipush (hE := fe_91_113) (k := ?_)
                  exact mj_b_retI (hE := fe_91_116) (hi := in_91) (hrf2 507 (by unfold a_putR; rw [if_neg (by rw [k1]; decide), if_neg (by rw [k2]; decide), if_neg hbar, if_pos ⟨k3, by omega⟩]) (by decide) (by decide))
            refine mj_b_rload_n (hE := fe_91_69) (hv := rfl) (k := ?_)
            refine mj_b_iload_n (hE := fe_91_70) (hv := rfl) (k := ?_)
            refine mj_b_callR (hE := fe_91_71) (hi := in_105) (h1 := g105c p) (hc := mj_cok_v rfl rfl h87) (ha := rfl) (hr := rfl) ?_
            refine mj_b_if1 (hE := fe_91_74) (kt := fun k3 => ?_) (kf := fun k3 => ?_)
            · simp only [mj_cnd, Bool.not_eq_true', decide_eq_false_iff_not, pz_0, Bool.not_eq_false] at k3
              exact p93 (Or.inl k3) _
            · simp only [mj_cnd, Bool.not_eq_false', decide_eq_true_eq, pz_0] at k3
              refine mj_b_iload (hE := fe_91_77) (hv := rfl) (k := ?_)
              refine mj_b_if1 (hE := fe_91_79) (kt := fun k4 => ?_) (kf := fun k4 => ?_)
              · simp only [mj_cnd, decide_eq_true_eq] at k4
                rw [hpos] at k4
                exact p97 (by rw [k3, k4]; simp)
              · simp only [mj_cnd, decide_eq_false_iff_not] at k4
                rw [hpos, Bool.not_eq_true] at k4
                refine mj_b_rload_n (hE := fe_91_82) (hv := rfl) (k := ?_)
                refine mj_b_iload_n (hE := fe_91_83) (hv := rfl) (k := ?_)
                refine mj_b_bipush (hE := fe_91_84) (k := ?_)
                refine mj_b_idiv (hE := fe_91_86) (hb := by decide) (k := ?_)
                refine mj_b_callR (hE := fe_91_87) (hi := in_105) (h1 := g105c (p / 8)) (hc := mj_cok_v rfl rfl h87) (ha := rfl) (hr := rfl) ?_
                refine mj_b_if1 (hE := fe_91_90) (kt := fun k5 => ?_) (kf := fun k5 => ?_)
                · simp only [mj_cnd, decide_eq_true_eq, pz_0] at k5
                  exact p97 (by rw [k3, k5]; simp)
                · simp only [mj_cnd, decide_eq_false_iff_not, pz_0, Bool.not_eq_false] at k5
                  exact p93 (Or.inr ⟨k4, k5⟩) _
          · simp only [mj_cnd, Bool.not_eq_false', decide_eq_true_eq, pz_0] at k2
            refine mj_b_sipush (hE := fe_91_65) (k := ?_)
            exact mj_b_retI (hE := fe_91_68) (hi := in_91) (hrf2 409 (by unfold a_putR; rw [if_neg (by rw [k1]; decide), if_pos k2]) (by decide) (by decide))
        · simp only [mj_cnd, decide_eq_false_iff_not, pz_0, Bool.not_eq_false] at k1
          refine mj_b_sipush (hE := fe_91_50) (k := ?_)
          exact mj_b_retI (hE := fe_91_53) (hi := in_91) (hrf2 405 (by unfold a_putR; rw [if_pos k1]) (by decide) (by decide))
      · exact absurd g (by decide)
    all_goals
      rw [e, if_neg (by decide)]
      refine mj_b_istore_n (hE := fe_91_27) (hx := Nat.le_of_ble_eq_true rfl) (k := ?_)
      refine mj_b_iload_n (hE := fe_91_28) (hv := rfl) (k := ?_)
      refine mj_b_if1 (hE := fe_91_29) (kt := fun g => absurd g (by decide)) (kf := fun g => ?_)
      refine mj_b_iload_n (hE := fe_91_32) (hv := rfl) (k := ?_)
      exact mj_b_retI (hE := fe_91_33) (hi := in_91) (hrf _ (by unfold a_two; rw [e, if_neg (by decide)]) (by decide) (by decide))
  refine mj_enter in_91 (L := [.ref 87, .int p, .int b, .retAddr 0, .retAddr 0, .retAddr 0]) rfl ?_
  refine mj_b_rload_n (hE := fe_91_0) (hv := rfl) (k := ?_)
  refine mj_b_iload_n (hE := fe_91_1) (hv := rfl) (k := ?_)
  refine mj_b_callR (hE := fe_91_2) (hi := in_92) (h1 := g92 _ _) (hc := mj_cok_s rfl) (ha := rfl) (hr := rfl) ?_
  refine mj_b_if1 (hE := fe_91_5) (kt := fun h5 => ?_) (kf := fun h5 => ?_)
  · simp only [mj_cnd, decide_eq_true_eq, decide_eq_false_iff_not, Bool.not_eq_true', Bool.not_eq_false', pz_0, Bool.not_eq_false, Bool.not_eq_true] at h5
    refine mj_b_iconst (hE := fe_91_22) (k := ?_)
    exact p23 false (by simp [pf_from, h5])
  · simp only [mj_cnd, decide_eq_true_eq, decide_eq_false_iff_not, Bool.not_eq_true', Bool.not_eq_false', pz_0, Bool.not_eq_false, Bool.not_eq_true] at h5
    refine mj_b_iload_n (hE := fe_91_8) (hv := rfl) (k := ?_)
    refine mj_b_if1 (hE := fe_91_9) (kt := fun h9 => ?_) (kf := fun h9 => ?_)
    · simp only [mj_cnd, decide_eq_true_eq, decide_eq_false_iff_not, Bool.not_eq_true', Bool.not_eq_false', pz_0, Bool.not_eq_false, Bool.not_eq_true] at h9
      refine mj_b_iconst (hE := fe_91_22) (k := ?_)
      exact p23 false (by simp [pf_from, h5, h9])
    · simp only [mj_cnd, decide_eq_true_eq, decide_eq_false_iff_not, Bool.not_eq_true', Bool.not_eq_false', pz_0, Bool.not_eq_false, Bool.not_eq_true] at h9
      refine mj_b_iload_n (hE := fe_91_12) (hv := rfl) (k := ?_)
      refine mj_b_ldc (hE := fe_91_13) (k := ?_)
      refine mj_b_if2 (hE := fe_91_15) (kt := fun h15 => ?_) (kf := fun h15 => ?_)
      · simp only [mj_cnd, decide_eq_true_eq, decide_eq_false_iff_not, Bool.not_eq_true', Bool.not_eq_false', pz_0, Bool.not_eq_false, Bool.not_eq_true] at h15
        refine mj_b_iconst (hE := fe_91_22) (k := ?_)
        exact p23 false (by simp [pf_from, h5, h9, h15])
      · simp only [mj_cnd, decide_eq_true_eq, decide_eq_false_iff_not, Bool.not_eq_true', Bool.not_eq_false', pz_0, Bool.not_eq_false, Bool.not_eq_true] at h15
        refine mj_b_iconst (hE := fe_91_18) (k := ?_)
        refine mj_b_goto (hE := fe_91_19) (k := ?_)
        exact p23 true (by simp [pf_from, h5, h9, h15])
end NC
