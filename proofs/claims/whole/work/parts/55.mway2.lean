/-! ===== the model: way ===== -/
section NK
variable {L n : Nat} {S Sx : ty_st} {H : ty_hd} {rs : List ty_rw} {U : ty_st} {ts hs ms : List Int32} {f w : Int32} {I I' I0 I1 : Nat → Nat → Int32} {R : Nat → Nat → Option Nat} {Q : Option Value × mj_H → Prop} {z : Int32 × Int32}
theorem m_env.tb (h : m_env S H f w rs ts I I1) (hm : mm_ok R) (hr : m_rel n S H f rs hs) (q : Int32) : mj_G pj_P 120 [.ref 87, .int q] (mz_SH L, I1, R) (fun r => r = (some (.int (pz (a_tbar S.1 S.2.1 (a_sub H.1) q))), (mz_SH L, I1, R))) := by
  have := g120' (L := L) q hm h.2.1.1 h.2.2.2.2.1
  dsimp only at this
  rw [h.2.2.2.2.2, hr.1.any_eq] at this
  have e : (a_bar S.2.1 (a_sub H.1) q || (a_bar S.2.1 (a_sub H.1) (q / 8) || S.1.any (fun r => pf_below r.1 q && a_bar S.2.1 (a_sub H.1) r.1))) = a_tbar S.1 S.2.1 (a_sub H.1) q := by
    unfold a_tbar
    rw [← Bool.or_assoc, Bool.or_comm (a_bar S.2.1 (a_sub H.1) q), Bool.or_assoc]
  rwa [e] at this
def wy_R (S : ty_st) (sub : Int32 → Bool) (p q : Int32) (dq ov mv : Bool) : Int32 := a_two (a_tgtR S.1 p q ov) (if mv = true then a_movR S.1 S.2.1 sub p q else a_copR S.1 S.2.1 sub p q dq)
theorem wy_403 {p q : Int32} (hp : pf_path p = true) (hq : pf_path q = true) : (q = 0 ∨ p = 0 ∨ pf_within p q = true ∨ pf_below q p = true) ↔ (q = 0 ∨ pf_within q p = true ∨ pf_within p q = true) := by
  constructor
  · rintro (h | h | h | h)
    · exact Or.inl h
    · by_cases hq0 : q = 0
      · exact Or.inl hq0
      · right; left
        subst h
        unfold pf_within
        rw [pw_zero hq hq0]
        simp
    · exact Or.inr (Or.inr h)
    · right; left
      unfold pf_within
      rw [h]
      simp
  · rintro (h | h | h)
    · exact Or.inl h
    · unfold pf_within at h
      rw [Bool.or_eq_true, decide_eq_true_eq] at h
      rcases h with rfl | h
      · right; right; left
        unfold pf_within
        simp
      · exact Or.inr (Or.inr (Or.inr h))
    · exact Or.inr (Or.inr (Or.inl h))
theorem wy_plc (hr : m_rel n S H f rs hs) {p q : Int32} (hp : pf_path p = true) (hq : pf_path q = true) (hp0 : p ≠ 0) (hq0 : q ≠ 0) (dq : Bool) : rs.any (wy_far p q dq) = !a_plc S.1 p q dq := by
  rw [hr.1.any_eq]
  unfold a_plc
  rw [Bool.not_not]
  rw [Bool.eq_iff_iff, List.any_eq_true, List.any_eq_true]
  constructor
  · rintro ⟨r, h1, h2⟩
    refine ⟨r, h1, ?_⟩
    unfold wy_far at h2
    simp only [Bool.and_eq_true, Bool.not_eq_true', decide_eq_false_iff_not] at h2 ⊢
    refine ⟨h2.1, ?_⟩
    rw [← Bool.not_eq_true]
    intro h3
    exact h2.2 ((pw_far (hr.2.1.1.2.2.1 r h1).1 hp hq hp0 hq0 (pf_taken_within h2.1)).mpr h3)
  · rintro ⟨r, h1, h2⟩
    refine ⟨r, h1, ?_⟩
    unfold wy_far
    simp only [Bool.and_eq_true, Bool.not_eq_true', decide_eq_false_iff_not] at h2 ⊢
    refine ⟨h2.1, ?_⟩
    intro h3
    rw [(pw_far (hr.2.1.1.2.2.1 r h1).1 hp hq hp0 hq0 (pf_taken_within h2.1)).mp h3] at h2
    exact absurd h2.2 (by decide)
/-- how many there would be -/
theorem wy_cnt (hr : m_rel n S H f rs hs) {p q : Int32} {dq : Bool} (hq0 : q ≠ 0) (hh : ar_has S.1 p = true) : (nI rs.length + nI (rs.countP (fun r => pf_taken r.1 p dq)) - nI (rs.countP (fun r => pf_within r.1 q)) ≤ 13) ↔ (nI S.1.length - 1 - nI (a_cw S.1 q) + (if dq = true then nI (a_cw S.1 p) else 1) ≤ 12) := by
  have h13 := hr.2.1.1.2.1
  obtain ⟨r0, a4, a5⟩ := hr.2.1.1.2.2.2
  have hcw : a_cw S.1 q + 1 ≤ S.1.length := by
    have e := cp_len_out S.1 q
    have : r0 ∈ S.1.filter (ar_out q) := List.mem_filter.mpr ⟨a4, by unfold ar_out; rw [a5, pw_out0 hq0]; rfl⟩
    have := List.length_pos_of_mem this
    omega
  have c1 : rs.countP (fun r => pf_within r.1 q) = a_cw S.1 q := hr.1.countP_eq _
  have c2 : rs.countP (fun r => pf_taken r.1 p dq) = (if dq = true then a_cw S.1 p else 1) := by
    rw [hr.1.countP_eq]
    cases dq
    · simp only [pf_taken, Bool.false_and, Bool.or_false, Bool.false_eq_true, if_false]
      have := kf_cnt (k := fun r : ty_rw => r.1) hr.nd p (fun _ => true)
      simp only [Bool.and_true] at this
      rw [this, if_pos]
      rw [ar_has_get] at hh
      unfold ar_get at hh
      obtain ⟨x, hx⟩ := Option.isSome_iff_exists.mp hh
      rw [hx]
      rfl
    · simp only [if_true]
      unfold a_cw
      congr 1
  have c3 : a_cw S.1 p ≤ S.1.length := List.countP_le_length
  rw [c1, c2, hr.len]
  have e3 : (if dq = true then nI (a_cw S.1 p) else 1) = nI (if dq = true then a_cw S.1 p else 1) := by split <;> rfl
  rw [e3]
  generalize hx : (if dq = true then a_cw S.1 p else 1) = x
  have hx2 : x ≤ 13 := by rw [← hx]; split <;> omega
  rw [nI_add, nI_sub (by omega), show (1 : Int32) = nI 1 from rfl, nI_sub (by omega), nI_sub (by omega), nI_add, show (13 : Int32) = nI 13 from rfl, show (12 : Int32) = nI 12 from rfl, nI_le_iff (by omega) (by omega), nI_le_iff (by omega) (by omega)]
  omega
set_option maxHeartbeats 4000000 in
/-- LockedTreeModel.way -/
theorem g119 (p q : Int32) (dq ov mv : Bool) (hmd : mv = true → dq = true) (hp : pf_path p = true) (hq : pf_path q = true) (h : m_env S H f w rs ts I I1) (hm : mm_ok R) (hr : m_rel n S H f rs hs) :
    mj_G pj_P 119 [.ref 87, .int p, .int q, .int (pz dq), .int (pz ov), .int (pz mv)] (mz_SH L, I1, R) (fun r => r = (some (.int (if wy_R S (a_sub H.1) p q dq ov mv = -1 then 0 else wy_R S (a_sub H.1) p q dq ov mv)), (mz_SH L, I1, R))) := by
  have hm0 := hm
  obtain ⟨q0, q1, q2, q3, q4, q5, q6, q7, q8, q9, q10, q11, q16, q21⟩ := hm
  have h87 := sm_87 L
  have h98 := sm_98 L
  have n0 := h.n0 hr
  have hposp := hr.pos p
  have hnegq := hr.neg q
  have ret : ∀ c, wy_R S (a_sub H.1) p q dq ov mv = c → c ≠ -1 → (some (Value.int c), ((mz_SH L, I1, R) : mj_H)) = (some (.int (if wy_R S (a_sub H.1) p q dq ov mv = -1 then 0 else wy_R S (a_sub H.1) p q dq ov mv)), (mz_SH L, I1, R)) := by
    intro c hc h1
    rw [hc, if_neg h1]
  have retT : ∀ c, a_tgtR S.1 p q ov = c → c ≠ -1 → wy_R S (a_sub H.1) p q dq ov mv = c := by
    intro c hc h1
    unfold wy_R a_two
    rw [hc, if_neg h1]
  have p24 : (q = 0 ∨ p = 0 ∨ pf_within p q = true ∨ pf_below q p = true) → ∀ Lc, mj_T pj_P 119 24 Lc [] (mz_SH L, I1, R) (fun r => r = (some (.int (if wy_R S (a_sub H.1) p q dq ov mv = -1 then 0 else wy_R S (a_sub H.1) p q dq ov mv)), (mz_SH L, I1, R))) := by
    intro hx Lc
    refine mj_b_sipush (hE := fe_119_24) (k := ?_)
    refine mj_b_retI (hE := fe_119_27) (hi := in_119) (ret 403 (retT 403 ?_ (by decide)) (by decide))
    unfold a_tgtR
    rw [if_pos ((wy_403 hp hq).mp hx)]
  have p28 : ¬ (q = 0 ∨ p = 0 ∨ pf_within p q = true ∨ pf_below q p = true) → mj_T pj_P 119 28 [.ref 87, .int p, .int q, .int (pz dq), .int (pz ov), .int (pz mv), .retAddr 0, .retAddr 0, .retAddr 0, .retAddr 0] [] (mz_SH L, I1, R) (fun r => r = (some (.int (if wy_R S (a_sub H.1) p q dq ov mv = -1 then 0 else wy_R S (a_sub H.1) p q dq ov mv)), (mz_SH L, I1, R))) := by
    intro hx
    have hx2 : ¬ (q = 0 ∨ pf_within q p = true ∨ pf_within p q = true) := fun e => hx ((wy_403 hp hq).mpr e)
    have hq0 : q ≠ 0 := fun e => hx (Or.inl e)
    have hp0 : p ≠ 0 := fun e => hx (Or.inr (Or.inl e))
    refine mj_b_rload_n (hE := fe_119_28) (hv := rfl) (k := ?_)
    refine mj_b_iload_n (hE := fe_119_29) (hv := rfl) (k := ?_)
    refine mj_b_iconst (hE := fe_119_30) (k := ?_)
    refine mj_b_callR (hE := fe_119_31) (hi := in_101) (h1 := h.fnd hm0 hr p) (hc := mj_cok_v rfl rfl h87) (ha := rfl) (hr := rfl) ?_
    refine mj_b_if1 (hE := fe_119_34) (kt := fun k1 => ?_) (kf := fun k1 => ?_)
    · simp only [mj_cnd, decide_eq_true_eq] at k1
      rw [hposp] at k1
      refine mj_b_rload_n (hE := fe_119_41) (hv := rfl) (k := ?_)
      refine mj_b_iload_n (hE := fe_119_42) (hv := rfl) (k := ?_)
      refine mj_b_bipush (hE := fe_119_43) (k := ?_)
      refine mj_b_idiv (hE := fe_119_45) (hb := by decide) (k := ?_)
      refine mj_b_callR (hE := fe_119_46) (hi := in_104) (h1 := h.fol hm0 hr (q / 8)) (hc := mj_cok_v rfl rfl h87) (ha := rfl) (hr := rfl) ?_
      refine mj_b_if1 (hE := fe_119_49) (kt := fun k2 => ?_) (kf := fun k2 => ?_)
      · simp only [mj_cnd, Bool.not_eq_true', decide_eq_false_iff_not, pz_0, Bool.not_eq_false] at k2
        have p74 : ¬ (ar_has S.1 q = true ∧ ov = false) → mj_T pj_P 119 74 [.ref 87, .int p, .int q, .int (pz dq), .int (pz ov), .int (pz mv), .retAddr 0, .retAddr 0, .retAddr 0, .retAddr 0] [] (mz_SH L, I1, R) (fun r => r = (some (.int (if wy_R S (a_sub H.1) p q dq ov mv = -1 then 0 else wy_R S (a_sub H.1) p q dq ov mv)), (mz_SH L, I1, R))) := by
          intro hov
          have htg : a_tgtR S.1 p q ov = -1 := by
            unfold a_tgtR
            rw [if_neg hx2, if_neg (by rw [k1]; decide), if_neg (by rw [k2]; decide), if_neg hov]
          have hwy : wy_R S (a_sub H.1) p q dq ov mv = if mv = true then a_movR S.1 S.2.1 (a_sub H.1) p q else a_copR S.1 S.2.1 (a_sub H.1) p q dq := by
            unfold wy_R a_two
            rw [if_pos htg]
          have p95 : (a_tbar S.1 S.2.1 (a_sub H.1) q = true ∨ (mv = true ∧ a_tbar S.1 S.2.1 (a_sub H.1) p = true)) → ∀ Lc, mj_T pj_P 119 95 Lc [] (mz_SH L, I1, R) (fun r => r = (some (.int (if wy_R S (a_sub H.1) p q dq ov mv = -1 then 0 else wy_R S (a_sub H.1) p q dq ov mv)), (mz_SH L, I1, R))) := by
            intro hb Lc
            refine mj_b_sipush (hE := fe_119_95) (k := ?_)
            refine mj_b_retI (hE := fe_119_98) (hi := in_119) (ret 423 ?_ (by decide))
            rw [hwy]
            cases mv
            · simp only [Bool.false_eq_true, if_false, false_and, or_false] at hb ⊢
              unfold a_copR
              rw [if_pos hb]
            · simp only [if_true, true_and] at hb ⊢
              unfold a_movR
              rw [if_pos hb]
          have p99 : ¬ (a_tbar S.1 S.2.1 (a_sub H.1) q = true ∨ (mv = true ∧ a_tbar S.1 S.2.1 (a_sub H.1) p = true)) → mj_T pj_P 119 99 [.ref 87, .int p, .int q, .int (pz dq), .int (pz ov), .int (pz mv), .retAddr 0, .retAddr 0, .retAddr 0, .retAddr 0] [] (mz_SH L, I1, R) (fun r => r = (some (.int (if wy_R S (a_sub H.1) p q dq ov mv = -1 then 0 else wy_R S (a_sub H.1) p q dq ov mv)), (mz_SH L, I1, R))) := by
            intro hb
            have hwy2 : wy_R S (a_sub H.1) p q dq ov mv = if a_plc S.1 p q dq = false then 507 else if mv = true then -1 else if nI rs.length + nI (rs.countP (fun r => pf_taken r.1 p dq)) - nI (rs.countP (fun r => pf_within r.1 q)) ≤ 13 then -1 else 507 := by
              rw [hwy]
              cases mv
              · simp only [Bool.false_eq_true, if_false, false_and, or_false] at hb ⊢
                unfold a_copR
                rw [if_neg hb]
                simp only [wy_cnt hr hq0 k1]
              · simp only [if_true, true_and] at hb ⊢
                unfold a_movR
                rw [if_neg hb, hmd rfl]
                all_goals (cases a_plc S.1 p q true <;> rfl)
            have p269 : ∀ c : Int32, c = (if wy_R S (a_sub H.1) p q dq ov mv = -1 then 0 else wy_R S (a_sub H.1) p q dq ov mv) → ∀ Lc, mj_T pj_P 119 270 Lc [.int c] (mz_SH L, I1, R) (fun r => r = (some (.int (if wy_R S (a_sub H.1) p q dq ov mv = -1 then 0 else wy_R S (a_sub H.1) p q dq ov mv)), (mz_SH L, I1, R))) := by
              intro c hc Lc
              exact mj_b_retI (hE := fe_119_270) (hi := in_119) (by rw [hc])
            have hln : I1 98 0 = nI rs.length := by rw [n0, hr.len]
            refine mj_b_rload_n (hE := fe_119_99) (hv := rfl) (k := ?_)
            refine mj_b_getQ (hE := fe_119_100) (hM := by assumption) (hv := by assumption) (k := ?_)
            refine mj_b_iconst (hE := fe_119_103) (k := ?_)
            refine mj_b_ialdN (hE := fe_119_104) (c := 0) (hM := by assumption) (ht := Or.inr rfl) (hj := rfl) (hc := by decide) (hn := by decide) (hv := by first | assumption | rfl) (k := ?_)
            refine mj_b_istore (hE := fe_119_105) (hx := Nat.le_of_ble_eq_true rfl) (k := ?_)
            refine mj_b_iconst (hE := fe_119_107) (k := ?_)
            refine mj_b_istore (hE := fe_119_108) (hx := Nat.le_of_ble_eq_true rfl) (k := ?_)
            refine mj_b_iconst (hE := fe_119_110) (k := ?_)
            refine mj_b_istore (hE := fe_119_111) (hx := Nat.le_of_ble_eq_true rfl) (k := ?_)
            refine l119 (S := S) (F := !a_plc S.1 p q dq) (N := nI rs.length + nI (rs.countP (fun r => pf_taken r.1 p dq)) - nI (rs.countP (fun r => pf_within r.1 q))) hm0 h.2.1.1 ?_ rs.length 0 (nI rs.length) false _ (by omega) (by rw [Bool.false_or, List.drop_zero]; exact wy_plc hr hp hq hp0 hq0 dq) (by rw [List.drop_zero])
            intro v8 v9
            refine mj_b_iload (hE := fe_119_246) (hv := rfl) (k := ?_)
            refine mj_b_if1 (hE := fe_119_248) (kt := fun m1 => ?_) (kf := fun m1 => ?_)
            · simp only [mj_cnd, Bool.not_eq_true', decide_eq_false_iff_not, pz_0, Bool.not_eq_false] at m1
              refine mj_b_sipush (hE := fe_119_263) (k := ?_)
              refine mj_b_goto (hE := fe_119_266) (k := ?_)
              have hw9 : wy_R S (a_sub H.1) p q dq ov mv = 507 := by rw [hwy2, if_pos m1]
              exact p269 507 (by rw [hw9]; decide) _
            · simp only [mj_cnd, Bool.not_eq_false', decide_eq_true_eq, pz_0] at m1
              refine mj_b_iload (hE := fe_119_251) (hv := rfl) (k := ?_)
              refine mj_b_if1 (hE := fe_119_253) (kt := fun m2 => ?_) (kf := fun m2 => ?_)
              · simp only [mj_cnd, Bool.not_eq_true', decide_eq_false_iff_not, pz_0, Bool.not_eq_false] at m2
                refine mj_b_iconst (hE := fe_119_269) (k := ?_)
                have hw9 : wy_R S (a_sub H.1) p q dq ov mv = -1 := by rw [hwy2, if_neg (by rw [m1]; decide), if_pos m2]
                exact p269 0 (by rw [hw9]; decide) _
              · simp only [mj_cnd, Bool.not_eq_false', decide_eq_true_eq, pz_0] at m2
                refine mj_b_iload (hE := fe_119_256) (hv := rfl) (k := ?_)
                refine mj_b_bipush (hE := fe_119_258) (k := ?_)
                refine mj_b_if2 (hE := fe_119_260) (kt := fun m3 => ?_) (kf := fun m3 => ?_)
                · simp only [mj_cnd, decide_eq_true_eq] at m3
                  refine mj_b_iconst (hE := fe_119_269) (k := ?_)
                  have hw9 : wy_R S (a_sub H.1) p q dq ov mv = -1 := by rw [hwy2, if_neg (by rw [m1]; decide), if_neg (by rw [m2]; decide), if_pos m3]
                  exact p269 0 (by rw [hw9]; decide) _
                · simp only [mj_cnd, decide_eq_false_iff_not] at m3
                  refine mj_b_sipush (hE := fe_119_263) (k := ?_)
                  refine mj_b_goto (hE := fe_119_266) (k := ?_)
                  have hw9 : wy_R S (a_sub H.1) p q dq ov mv = 507 := by rw [hwy2, if_neg (by rw [m1]; decide), if_neg (by rw [m2]; decide), if_neg m3]
                  exact p269 507 (by rw [hw9]; decide) _
          refine mj_b_rload_n (hE := fe_119_74) (hv := rfl) (k := ?_)
          refine mj_b_iload_n (hE := fe_119_75) (hv := rfl) (k := ?_)
          refine mj_b_callR (hE := fe_119_76) (hi := in_120) (h1 := h.tb hm0 hr q) (hc := mj_cok_v rfl rfl h87) (ha := rfl) (hr := rfl) ?_
          refine mj_b_if1 (hE := fe_119_79) (kt := fun k3 => ?_) (kf := fun k3 => ?_)
          · simp only [mj_cnd, Bool.not_eq_true', decide_eq_false_iff_not, pz_0, Bool.not_eq_false] at k3
            exact p95 (Or.inl k3) _
          · simp only [mj_cnd, Bool.not_eq_false', decide_eq_true_eq, pz_0] at k3
            refine mj_b_iload (hE := fe_119_82) (hv := rfl) (k := ?_)
            refine mj_b_if1 (hE := fe_119_84) (kt := fun k4 => ?_) (kf := fun k4 => ?_)
            · simp only [mj_cnd, decide_eq_true_eq, pz_0] at k4
              exact p99 (by rw [k3, k4]; simp)
            · simp only [mj_cnd, decide_eq_false_iff_not, pz_0, Bool.not_eq_false] at k4
              refine mj_b_rload_n (hE := fe_119_87) (hv := rfl) (k := ?_)
              refine mj_b_iload_n (hE := fe_119_88) (hv := rfl) (k := ?_)
              refine mj_b_callR (hE := fe_119_89) (hi := in_120) (h1 := h.tb hm0 hr p) (hc := mj_cok_v rfl rfl h87) (ha := rfl) (hr := rfl) ?_
              refine mj_b_if1 (hE := fe_119_92) (kt := fun k5 => ?_) (kf := fun k5 => ?_)
              · simp only [mj_cnd, decide_eq_true_eq, pz_0] at k5
                exact p99 (by rw [k3, k5]; simp)
              · simp only [mj_cnd, decide_eq_false_iff_not, pz_0, Bool.not_eq_false] at k5
                exact p95 (Or.inr ⟨k4, k5⟩) _
        refine mj_b_rload_n (hE := fe_119_56) (hv := rfl) (k := ?_)
        refine mj_b_iload_n (hE := fe_119_57) (hv := rfl) (k := ?_)
        refine mj_b_iconst (hE := fe_119_58) (k := ?_)
        refine mj_b_callR (hE := fe_119_59) (hi := in_101) (h1 := h.fnd hm0 hr q) (hc := mj_cok_v rfl rfl h87) (ha := rfl) (hr := rfl) ?_
        refine mj_b_if1 (hE := fe_119_62) (kt := fun k3 => ?_) (kf := fun k3 => ?_)
        · simp only [mj_cnd, decide_eq_true_eq] at k3
          rw [hnegq] at k3
          exact p74 (by rw [k3]; simp)
        · simp only [mj_cnd, decide_eq_false_iff_not] at k3
          rw [hnegq, Bool.not_eq_false] at k3
          refine mj_b_iload (hE := fe_119_65) (hv := rfl) (k := ?_)
          refine mj_b_if1 (hE := fe_119_67) (kt := fun k4 => ?_) (kf := fun k4 => ?_)
          · simp only [mj_cnd, Bool.not_eq_true', decide_eq_false_iff_not, pz_0, Bool.not_eq_false] at k4
            exact p74 (by rw [k4]; simp)
          · simp only [mj_cnd, Bool.not_eq_false', decide_eq_true_eq, pz_0] at k4
            refine mj_b_sipush (hE := fe_119_70) (k := ?_)
            refine mj_b_retI (hE := fe_119_73) (hi := in_119) (ret 412 (retT 412 ?_ (by decide)) (by decide))
            unfold a_tgtR
            rw [if_neg hx2, if_neg (by rw [k1]; decide), if_neg (by rw [k2]; decide), if_pos ⟨k3, k4⟩]
      · simp only [mj_cnd, Bool.not_eq_false', decide_eq_true_eq, pz_0] at k2
        refine mj_b_sipush (hE := fe_119_52) (k := ?_)
        refine mj_b_retI (hE := fe_119_55) (hi := in_119) (ret 409 (retT 409 ?_ (by decide)) (by decide))
        unfold a_tgtR
        rw [if_neg hx2, if_neg (by rw [k1]; decide), if_pos k2]
    · simp only [mj_cnd, decide_eq_false_iff_not] at k1
      rw [hposp, Bool.not_eq_true] at k1
      refine mj_b_sipush (hE := fe_119_37) (k := ?_)
      refine mj_b_retI (hE := fe_119_40) (hi := in_119) (ret 404 (retT 404 ?_ (by decide)) (by decide))
      unfold a_tgtR
      rw [if_neg hx2, if_pos k1]
  refine mj_enter in_119 (L := [.ref 87, .int p, .int q, .int (pz dq), .int (pz ov), .int (pz mv), .retAddr 0, .retAddr 0, .retAddr 0, .retAddr 0]) rfl ?_
  refine mj_b_iload_n (hE := fe_119_0) (hv := rfl) (k := ?_)
  refine mj_b_if1 (hE := fe_119_1) (kt := fun h1 => ?_) (kf := fun h1 => ?_)
  · simp only [mj_cnd, decide_eq_true_eq, decide_eq_false_iff_not, Bool.not_eq_true', Bool.not_eq_false', pz_0, Bool.not_eq_false, Bool.not_eq_true] at h1
    exact p24 (by simp [h1]) _
  · simp only [mj_cnd, decide_eq_true_eq, decide_eq_false_iff_not, Bool.not_eq_true', Bool.not_eq_false', pz_0, Bool.not_eq_false, Bool.not_eq_true] at h1
    refine mj_b_iload_n (hE := fe_119_4) (hv := rfl) (k := ?_)
    refine mj_b_if1 (hE := fe_119_5) (kt := fun h5 => ?_) (kf := fun h5 => ?_)
    · simp only [mj_cnd, decide_eq_true_eq, decide_eq_false_iff_not, Bool.not_eq_true', Bool.not_eq_false', pz_0, Bool.not_eq_false, Bool.not_eq_true] at h5
      exact p24 (by simp [h1, h5]) _
    · simp only [mj_cnd, decide_eq_true_eq, decide_eq_false_iff_not, Bool.not_eq_true', Bool.not_eq_false', pz_0, Bool.not_eq_false, Bool.not_eq_true] at h5
      refine mj_b_iload_n (hE := fe_119_8) (hv := rfl) (k := ?_)
      refine mj_b_iload_n (hE := fe_119_9) (hv := rfl) (k := ?_)
      refine mj_b_callR (hE := fe_119_10) (hi := in_116) (h1 := g116 _ _ _) (hc := mj_cok_s rfl) (ha := rfl) (hr := rfl) ?_
      refine mj_b_if1 (hE := fe_119_13) (kt := fun h13 => ?_) (kf := fun h13 => ?_)
      · simp only [mj_cnd, decide_eq_true_eq, decide_eq_false_iff_not, Bool.not_eq_true', Bool.not_eq_false', pz_0, Bool.not_eq_false, Bool.not_eq_true] at h13
        exact p24 (by simp [h1, h5, h13]) _
      · simp only [mj_cnd, decide_eq_true_eq, decide_eq_false_iff_not, Bool.not_eq_true', Bool.not_eq_false', pz_0, Bool.not_eq_false, Bool.not_eq_true] at h13
        refine mj_b_iload_n (hE := fe_119_16) (hv := rfl) (k := ?_)
        refine mj_b_iload_n (hE := fe_119_17) (hv := rfl) (k := ?_)
        refine mj_b_callR (hE := fe_119_18) (hi := in_100) (h1 := g100 _ _ _) (hc := mj_cok_s rfl) (ha := rfl) (hr := rfl) ?_
        refine mj_b_if1 (hE := fe_119_21) (kt := fun h21 => ?_) (kf := fun h21 => ?_)
        · simp only [mj_cnd, decide_eq_true_eq, decide_eq_false_iff_not, Bool.not_eq_true', Bool.not_eq_false', pz_0, Bool.not_eq_false, Bool.not_eq_true] at h21
          exact p28 (by simp [h1, h5, h13, h21])
        · simp only [mj_cnd, decide_eq_true_eq, decide_eq_false_iff_not, Bool.not_eq_true', Bool.not_eq_false', pz_0, Bool.not_eq_false, Bool.not_eq_true] at h21
          exact p24 (by simp [h1, h5, h13, h21]) _
end NK
