/-! ===== the model: lock ===== -/
section NG
variable {L n : Nat} {S Sx : ty_st} {H : ty_hd} {rs : List ty_rw} {U : ty_st} {ts hs ms : List Int32} {f w : Int32} {I I' I0 I1 : Nat → Nat → Int32} {R : Nat → Nat → Option Nat} {Q : Option Value × mj_H → Prop} {z : Int32 × Int32}
/-- a lock comes to the second side -/
def mu_lock (I : Nat → Nat → Int32) (m : Nat) (q : ty_lk) : Nat → Nat → Int32 := mj_u (mj_u (mj_u (mj_u (mj_u (mj_u (mj_u I 98 6 (nI m + 1)) 98 9 q.1) 93 (10 + m) q.1) 94 (10 + m) q.2.1) 95 (10 + m) (pz q.2.2.2.1)) 96 (10 + m) (pz q.2.2.2.2)) 97 (10 + m) q.2.2.1
theorem md_rep.addl (h : md_rep 1 U I) (hl6 : U.2.1.length < 6) (q : ty_lk) (hq : q.1 = U.2.2.2.2) : md_rep 1 (U.1, U.2.1 ++ [q], U.2.2.1, U.2.2.2.1, U.2.2.2.2 + 1) (mu_lock I U.2.1.length q) ∧ fr_2 I (mu_lock I U.2.1.length q) := by
  obtain ⟨h0, ⟨a1, a2⟩, ⟨b1, b2⟩, hr, hl, c1, c2, c3⟩ := h
  simp only [Nat.mul_one, Nat.reduceAdd] at a1 b1 hr hl c1 c2 c3
  have hoff : ∀ x j, ¬ ((93 ≤ x ∧ x ≤ 97) ∧ j = 10 + U.2.1.length) → ¬ (x = 98 ∧ j = 6) → ¬ (x = 98 ∧ j = 9) → mu_lock I U.2.1.length q x j = I x j := by
    intro x j h1 h2 h3
    have e1 : ¬ (x = 93 ∧ j = 10 + U.2.1.length) := by omega
    have e2 : ¬ (x = 94 ∧ j = 10 + U.2.1.length) := by omega
    have e3 : ¬ (x = 95 ∧ j = 10 + U.2.1.length) := by omega
    have e4 : ¬ (x = 96 ∧ j = 10 + U.2.1.length) := by omega
    have e5 : ¬ (x = 97 ∧ j = 10 + U.2.1.length) := by omega
    simp only [mu_lock, mj_u, e1, e2, e3, e4, e5, h2, h3, if_false]
  refine ⟨⟨h0, ⟨?_, a2⟩, ⟨?_, ?_⟩, ?_, ?_, ?_, ?_, ?_⟩, ?_⟩
  · rw [hoff _ _ (by omega) (by omega) (by omega)]; exact a1
  · simp [mu_lock, mj_u, nI_succ]
  · simp; omega
  · intro i r hi
    simp only [Nat.mul_one]
    exact (hr i r hi).eq (fun x k h1 h2 => hoff _ _ (by omega) (by omega) (by omega))
  · intro i l hi
    simp only [Nat.mul_one]
    dsimp only at hi
    rw [List.getElem?_append] at hi
    split at hi
    · obtain ⟨k0, k1, k2, k3, k4⟩ := hl i l hi
      refine ⟨?_, ?_, ?_, ?_, ?_⟩ <;> rw [hoff _ _ (by omega) (by omega) (by omega)] <;> assumption
    · have hl2 := (List.getElem?_eq_some_iff.mp hi).1
      simp only [List.length_cons, List.length_nil] at hl2
      have e : i = U.2.1.length := by omega
      subst e
      simp only [Nat.sub_self, List.getElem?_cons_zero, Option.some.injEq] at hi
      rw [← hi]
      exact ⟨by simp [mu_lock, mj_u], by simp [mu_lock, mj_u], by simp [mu_lock, mj_u], by simp [mu_lock, mj_u], by simp [mu_lock, mj_u]⟩
  · rw [hoff _ _ (by omega) (by omega) (by omega)]; exact c1
  · rw [hoff _ _ (by omega) (by omega) (by omega)]; exact c2
  · simp [mu_lock, mj_u, hq]
  · intro x k h1 h2 h3 h4
    exact hoff _ _ (by omega) (by omega) (by omega)
set_option maxHeartbeats 4000000 in
/-- LockedTreeModel.lock -/
theorem g126 (p : Int32) (xc dq : Bool) (t : Int32) (hn : n < 1000) (hm : mm_ok R) (h : m_all (rs, S.2) hs f w ms I) (hr : m_rel n S H f rs hs) :
    mj_G pj_P 126 [.ref 87, .int p, .int (pz xc), .int (pz dq), .int t] (mz_SH L, I, R) (mo_post L I R (o_lck S H f w ms p xc dq t)) := by
  have hm0 := hm
  obtain ⟨q0, q1, q2, q3, q4, q5, q6, q7, q8, q9, q10, q11, q16, q21⟩ := hm
  have h87 := sm_87 L
  have h93 := sm_93 L
  have h94 := sm_94 L
  have h95 := sm_95 L
  have h96 := sm_96 L
  have h97 := sm_97 L
  have h98 := sm_98 L
  have h6 := hr.2.1.2.1.2.1
  have h13 := hr.2.1.1.2.1
  have hlen := hr.len
  have p26 : ∀ ok : Bool, ok = (pf_path p && pf_from t 1 100) → mj_T pj_P 126 26 [.ref 87, .int p, .int (pz xc), .int (pz dq), .int t, .retAddr 0, .retAddr 0, .retAddr 0, .retAddr 0] [.int (pz ok), .ref 87] (mz_SH L, I, R) (mo_post L I R (o_lck S H f w ms p xc dq t)) := by
    intro ok hok
    refine mj_b_iload_n (hE := fe_126_26) (hv := rfl) (k := ?_)
    refine mj_b_call (hE := fe_126_27) (hi := in_93) (h1 := g93S p ok hm0 h hr) (hc := mj_cok_v rfl rfl h87) (ha := rfl) (hr := rfl) ?_
    rintro v' M1 ⟨I1, hM, fM, hall, hb, hop⟩
    cases hM
    have hrf : ∀ c, a_two (a_fstR S.1 S.2.1 H p ok) (a_lckR S.1 S.2.1 (a_sub H.1) p xc dq) = c → c ≠ -1 → c ≠ 207 → mo_post L I R (o_lck S H f w ms p xc dq t) (some (.int c), (mz_SH L, I1, R)) := by
      intro c hc h1 h2
      have e : o_lck S H f w ms p xc dq t = o_ref S w ms c := by unfold o_lck o_ans; rw [← hok, hc, if_neg h1]
      rw [e]
      exact mo_ref hr hall fM h2
    rcases a_fst_cases S H p ok with e | e | e
    · have hrf2 : ∀ c, a_lckR S.1 S.2.1 (a_sub H.1) p xc dq = c → c ≠ -1 → c ≠ 207 → mo_post L I R (o_lck S H f w ms p xc dq t) (some (.int c), (mz_SH L, I1, R)) := fun c hc h1 h2 => hrf c (by unfold a_two; rw [if_pos e]; exact hc) h1 h2
      obtain ⟨hu, ts, hsb, hsub⟩ := hop e
      have hen : m_env S H f w rs ts I I1 := ⟨fM, hall, hb, hu, hsb, hsub⟩
      have n0 := hen.n0 hr
      have n1 := hen.n1
      have hok3 := a_fstR_ok e
      rw [hok, Bool.and_eq_true] at hok3
      have c2 := hall.1.2.2.2.2.2.1
      simp only [Nat.mul_zero, Nat.zero_add] at c2
      have hpos := hr.pos p
      rw [e, if_pos rfl]
      -- no lock is in the way, there is room
      have p205 : ∀ (fr : Bool) (v7 v8 : Value), fr = (!ar_has S.1 p) → a_lckR S.1 S.2.1 (a_sub H.1) p xc dq = -1 → mj_T pj_P 126 205 [.ref 87, .int p, .int (pz xc), .int (pz dq), .int t, .int 0, .int (pz fr), v7, v8] [] (mz_SH L, I1, R) (mo_post L I R (o_lck S H f w ms p xc dq t)) := by
        intro fr v7 v8 hfr hok2
        obtain ⟨hl6, hroom⟩ := a_lckR_ok h6 hok2
        have hcar : o_lck S H f w ms p xc dq t = o_car S f w ms (x_lck S p xc dq t) (if ar_has S.1 p = true then 200 else 201) := by
          unfold o_lck o_ans a_two
          rw [← hok, if_pos e, if_pos hok2]
        rw [hcar]
        have b6 := hu.2.2.1.1
        have c9 := hu.2.2.2.2.2.2.2
        simp only [Nat.mul_one, Nat.reduceAdd] at b6 c9
        have hadd := hu.addl hl6 (S.2.2.2.2, p, S.2.2.1 + t, xc, dq) rfl
        have hlt := ck_lt hr.2.1 hn hok3.2
        have hlive : ∀ l ∈ (x_lck S p xc dq t).2.1, (x_lck S p xc dq t).2.2.1 < l.2.2.1 := by
          intro l hl
          simp only [x_lck, List.mem_append, List.mem_singleton] at hl ⊢
          rcases hl with hl | rfl
          · exact hr.live l hl
          · exact hlt
        have hwp := wf_lck (t := t) (xc := xc) (dq := dq) hr.2.1.pre hn hok3.1 hl6 hroom
        refine mj_b_bipush (hE := fe_126_205) (k := ?_)
        refine mj_b_rload_n (hE := fe_126_207) (hv := rfl) (k := ?_)
        refine mj_b_getQ (hE := fe_126_208) (hM := by assumption) (hv := by assumption) (k := ?_)
        refine mj_b_bipush (hE := fe_126_211) (k := ?_)
        refine mj_b_ialdN (hE := fe_126_213) (c := 6) (hM := by assumption) (ht := Or.inr rfl) (hj := rfl) (hc := by decide) (hn := by decide) (hv := by first | assumption | rfl) (k := ?_)
        refine mj_b_iadd (hE := fe_126_214) (k := ?_)
        refine mj_b_istore (hE := fe_126_215) (hx := Nat.le_of_ble_eq_true rfl) (k := ?_)
        refine (show mj_T pj_P 126 217 [.ref 87, .int p, .int (pz xc), .int (pz dq), .int t, .int 0, .int (pz fr), .int (nI 10 + nI S.2.1.length), v8] [] _ _ from ?_)
        rw [nI_add]
        refine mj_b_rload_n (hE := fe_126_217) (hv := rfl) (k := ?_)
        refine mj_b_getQ (hE := fe_126_218) (hM := by assumption) (hv := by assumption) (k := ?_)
        refine mj_b_bipush (hE := fe_126_221) (k := ?_)
        refine mj_b_dup2 (hE := fe_126_223) (hv := rfl) (hu := rfl) (k := ?_)
        refine mj_b_ialdN (hE := fe_126_224) (c := 6) (hM := by assumption) (ht := Or.inr rfl) (hj := rfl) (hc := by decide) (hn := by decide) (v := nI S.2.1.length) (hv := b6) (k := ?_)
        refine mj_b_iconst (hE := fe_126_225) (k := ?_)
        refine mj_b_iadd (hE := fe_126_226) (k := ?_)
        refine mj_b_iastN (hE := fe_126_227) (c := 6) (hM := by assumption) (hj := rfl) (hc := by decide) (hn := by decide)  (k := ?_)
        refine mj_b_rload_n (hE := fe_126_228) (hv := rfl) (k := ?_)
        refine mj_b_getQ (hE := fe_126_229) (hM := by assumption) (hv := by assumption) (k := ?_)
        refine mj_b_bipush (hE := fe_126_232) (k := ?_)
        refine mj_b_dup2 (hE := fe_126_234) (hv := rfl) (hu := rfl) (k := ?_)
        refine mj_b_ialdN (hE := fe_126_235) (c := 9) (hM := by assumption) (ht := Or.inr rfl) (hj := rfl) (hc := by decide) (hn := by decide) (v := I1 98 9) (hv := by simp [mj_u]) (k := ?_)
        refine mj_b_iconst (hE := fe_126_236) (k := ?_)
        refine mj_b_iadd (hE := fe_126_237) (k := ?_)
        refine mj_b_iastN (hE := fe_126_238) (c := 9) (hM := by assumption) (hj := rfl) (hc := by decide) (hn := by decide)  (k := ?_)
        rw [c9]
        refine mj_b_rload_n (hE := fe_126_239) (hv := rfl) (k := ?_)
        refine mj_b_getQ (hE := fe_126_240) (hM := by assumption) (hv := by assumption) (k := ?_)
        refine mj_b_iload (hE := fe_126_243) (hv := rfl) (k := ?_)
        refine mj_b_rload_n (hE := fe_126_245) (hv := rfl) (k := ?_)
        refine mj_b_getQ (hE := fe_126_246) (hM := by assumption) (hv := by assumption) (k := ?_)
        refine mj_b_bipush (hE := fe_126_249) (k := ?_)
        refine mj_b_ialdN (hE := fe_126_251) (c := 9) (hM := by assumption) (ht := Or.inr rfl) (hj := rfl) (hc := by decide) (hn := by decide) (v := S.2.2.2.2) (hv := by simp [mj_u]) (k := ?_)
        refine mj_b_iastN (hE := fe_126_252) (hM := h93) (hj := rfl) (hc := by omega) (hn := by decide) (k := ?_)
        refine mj_b_rload_n (hE := fe_126_253) (hv := rfl) (k := ?_)
        refine mj_b_getQ (hE := fe_126_254) (hM := by assumption) (hv := by assumption) (k := ?_)
        refine mj_b_iload (hE := fe_126_257) (hv := rfl) (k := ?_)
        refine mj_b_iload_n (hE := fe_126_259) (hv := rfl) (k := ?_)
        refine mj_b_iastN (hE := fe_126_260) (hM := h94) (hj := rfl) (hc := by omega) (hn := by decide) (k := ?_)
        refine mj_b_rload_n (hE := fe_126_261) (hv := rfl) (k := ?_)
        refine mj_b_getQ (hE := fe_126_262) (hM := by assumption) (hv := by assumption) (k := ?_)
        refine mj_b_iload (hE := fe_126_265) (hv := rfl) (k := ?_)
        refine mj_b_iload_n (hE := fe_126_267) (hv := rfl) (k := ?_)
        refine mj_b_bastN (hE := fe_126_268) (hM := h95) (hj := rfl) (hc := by omega) (hn := by decide) (hv := rfl) (k := ?_)
        refine mj_b_rload_n (hE := fe_126_269) (hv := rfl) (k := ?_)
        refine mj_b_getQ (hE := fe_126_270) (hM := by assumption) (hv := by assumption) (k := ?_)
        refine mj_b_iload (hE := fe_126_273) (hv := rfl) (k := ?_)
        refine mj_b_iload_n (hE := fe_126_275) (hv := rfl) (k := ?_)
        refine mj_b_bastN (hE := fe_126_276) (hM := h96) (hj := rfl) (hc := by omega) (hn := by decide) (hv := rfl) (k := ?_)
        refine mj_b_rload_n (hE := fe_126_277) (hv := rfl) (k := ?_)
        refine mj_b_getQ (hE := fe_126_278) (hM := by assumption) (hv := by assumption) (k := ?_)
        refine mj_b_iload (hE := fe_126_281) (hv := rfl) (k := ?_)
        refine mj_b_rload_n (hE := fe_126_283) (hv := rfl) (k := ?_)
        refine mj_b_getQ (hE := fe_126_284) (hM := by assumption) (hv := by assumption) (k := ?_)
        refine mj_b_iconst (hE := fe_126_287) (k := ?_)
        refine mj_b_ialdN (hE := fe_126_288) (c := 2) (hM := by assumption) (ht := Or.inr rfl) (hj := rfl) (hc := by decide) (hn := by decide) (v := S.2.2.1) (hv := by simp [mj_u, c2]) (k := ?_)
        refine mj_b_iload (hE := fe_126_289) (hv := rfl) (k := ?_)
        refine mj_b_iadd (hE := fe_126_291) (k := ?_)
        refine mj_b_iastN (hE := fe_126_292) (hM := h97) (hj := rfl) (hc := by omega) (hn := by decide) (k := ?_)
        obtain ⟨hu2, f2⟩ := hadd
        dsimp only
        refine (show mj_T pj_P 126 293 [.ref 87, .int p, .int (pz xc), .int (pz dq), .int t, .int 0, .int (pz fr), .int (nI (10 + S.2.1.length)), v8] [] (mz_SH L, mu_lock I1 S.2.1.length (S.2.2.2.2, p, S.2.2.1 + t, xc, dq), R) _ from ?_)
        dsimp only at hu2 f2
        generalize mu_lock I1 S.2.1.length (S.2.2.2.2, p, S.2.2.1 + t, xc, dq) = J at hu2 f2 ⊢
        have p305 : ∀ (I3 : Nat → Nat → Int32) (qs : List ty_rw) (v7 v8 : Value), md_rep 1 (qs, S.2.1 ++ [(S.2.2.2.2, p, S.2.2.1 + t, xc, dq)], S.2.2.1, (x_lck S p xc dq t).2.2.2.1, S.2.2.2.2 + 1) I3 → fr_2 I1 I3 → qs.Perm (x_lck S p xc dq t).1 → mj_T pj_P 126 305 [.ref 87, .int p, .int (pz xc), .int (pz dq), .int t, .int 0, .int (pz fr), v7, v8] [] (mz_SH L, I3, R) (mo_post L I R (o_car S f w ms (x_lck S p xc dq t) (if ar_has S.1 p = true then 200 else 201))) := by
          intro I3 qs v7 v8 hu3 f3 hxp
          refine mj_b_rload_n (hE := fe_126_305) (hv := rfl) (k := ?_)
          refine mj_b_iload (hE := fe_126_306) (hv := rfl) (k := ?_)
          refine mj_b_if1 (hE := fe_126_308) (kt := fun g => ?_) (kf := fun g => ?_)
          · simp only [mj_cnd, decide_eq_true_eq, pz_0] at g
            rw [g] at hfr
            have hh : ar_has S.1 p = true := by simpa using hfr
            rw [hh, if_pos rfl]
            refine mj_b_sipush (hE := fe_126_317) (k := ?_)
            refine mj_b_call (hE := fe_126_320) (hi := in_108) (h1 := hen.car (ms := ms) (Sx := x_lck S p xc dq t) hm0 hr (Nat.le_succ n) f3 hu3 hwp hxp (fin_same hxp rfl hlive) (by decide)) (hc := mj_cok_v rfl rfl h87) (ha := rfl) (hr := rfl) ?_
            intro v' M2 hpo
            obtain ⟨I4, rs2, hM, hrest⟩ := id hpo
            cases hM
            exact mj_b_retI (hE := fe_126_323) (hi := in_126) hpo
          · simp only [mj_cnd, decide_eq_false_iff_not, pz_0, Bool.not_eq_false] at g
            rw [g] at hfr
            have hh : ar_has S.1 p = false := by simpa using hfr
            rw [hh, if_neg (by decide)]
            refine mj_b_sipush (hE := fe_126_311) (k := ?_)
            refine mj_b_goto (hE := fe_126_314) (k := ?_)
            refine mj_b_call (hE := fe_126_320) (hi := in_108) (h1 := hen.car (ms := ms) (Sx := x_lck S p xc dq t) hm0 hr (Nat.le_succ n) f3 hu3 hwp hxp (fin_same hxp rfl hlive) (by decide)) (hc := mj_cok_v rfl rfl h87) (ha := rfl) (hr := rfl) ?_
            intro v' M2 hpo
            obtain ⟨I4, rs2, hM, hrest⟩ := id hpo
            cases hM
            exact mj_b_retI (hE := fe_126_323) (hi := in_126) hpo
        refine mj_b_iload (hE := fe_126_293) (hv := rfl) (k := ?_)
        refine mj_b_if1 (hE := fe_126_295) (kt := fun g => ?_) (kf := fun g => ?_)
        · simp only [mj_cnd, decide_eq_true_eq, pz_0] at g
          rw [g] at hfr
          have hh : ar_has S.1 p = true := by simpa using hfr
          refine p305 J rs _ _ ?_ f2 ?_
          · simp only [x_lck, hh, if_true]; exact hu2
          · simp only [x_lck, hh, if_true]; exact hr.1
        · simp only [mj_cnd, decide_eq_false_iff_not, pz_0, Bool.not_eq_false] at g
          rw [g] at hfr
          have hh : ar_has S.1 p = false := by simpa using hfr
          refine mj_b_rload_n (hE := fe_126_298) (hv := rfl) (k := ?_)
          refine mj_b_iload_n (hE := fe_126_299) (hv := rfl) (k := ?_)
          refine mj_b_iconst (hE := fe_126_300) (k := ?_)
          refine mj_b_iconst (hE := fe_126_301) (k := ?_)
          refine mj_b_call (hE := fe_126_302) (hi := in_107) (h1 := g107 p false 0 hm0 hu2 (by dsimp only; rw [hlen]; exact hroom hh)) (hc := mj_cok_v rfl rfl h87) (ha := rfl) (hr := rfl) ?_
          rintro v' M1 ⟨I2, hM, hu3, f3⟩
          cases hM
          refine p305 I2 (rs ++ [(p, 1, 0, S.2.2.2.1, 0, 0, 0)]) _ _ ?_ (f2.trans f3) ?_
          · simp only [x_lck, hh, Bool.false_eq_true, if_false] at hu3 ⊢; exact hu3
          · simp only [x_lck, hh, Bool.false_eq_true, if_false]
            exact ((List.perm_append_singleton _ _).trans (List.Perm.cons _ hr.1)).trans (ar_ins_perm _ _).symm
      have p54 : ∀ (fr : Bool), fr = (!ar_has S.1 p) → mj_T pj_P 126 54 [.ref 87, .int p, .int (pz xc), .int (pz dq), .int t, .int 0, .retAddr 0, .retAddr 0, .retAddr 0] [.int (pz fr)] (mz_SH L, I1, R) (mo_post L I R (o_lck S H f w ms p xc dq t)) := by
        intro fr hfr
        have loop : ¬ (ar_has S.1 p = false ∧ a_coll S.1 (p / 8) = false) → ¬ (ar_has S.1 p = false ∧ a_bar S.2.1 (a_sub H.1) (p / 8) = true) → ∀ (k i : Nat) (v8 : Value), i + k = S.2.1.length → (S.2.1.any (a_way p xc dq) = (S.2.1.drop i).any (a_way p xc dq)) → mj_T pj_P 126 99 [.ref 87, .int p, .int (pz xc), .int (pz dq), .int t, .int 0, .int (pz fr), .int (nI i), v8] [] (mz_SH L, I1, R) (mo_post L I R (o_lck S H f w ms p xc dq t)) := by
          intro hno1 hno2 k
          induction k with
          | zero =>
            intro i v8 hi hany
            have hin : i = S.2.1.length := by omega
            subst hin
            rw [List.drop_length, List.any_nil] at hany
            have hno3 : ¬ ((ar_has S.1 p = false ∧ a_bar S.2.1 (a_sub H.1) (p / 8) = true) ∨ S.2.1.any (a_way p xc dq) = true) := by
              rintro (x | x)
              · exact hno2 x
              · rw [hany] at x; cases x
            have p201 : ((6 : Int32) ≤ nI S.2.1.length ∨ (ar_has S.1 p = false ∧ 13 ≤ S.1.length)) → ∀ Lc, mj_T pj_P 126 201 Lc [] (mz_SH L, I1, R) (mo_post L I R (o_lck S H f w ms p xc dq t)) := by
              intro hx Lc
              refine mj_b_sipush (hE := fe_126_201) (k := ?_)
              exact mj_b_retI (hE := fe_126_204) (hi := in_126) (hrf2 507 (by unfold a_lckR; rw [if_neg hno1, if_neg hno3, if_pos hx]) (by decide) (by decide))
            refine mj_b_iload (hE := fe_126_99) (hv := rfl) (k := ?_)
            refine mj_b_rload_n (hE := fe_126_101) (hv := rfl) (k := ?_)
            refine mj_b_getQ (hE := fe_126_102) (hM := by assumption) (hv := by assumption) (k := ?_)
            refine mj_b_iconst (hE := fe_126_105) (k := ?_)
            refine mj_b_ialdN (hE := fe_126_106) (c := 1) (hM := by assumption) (ht := Or.inr rfl) (hj := rfl) (hc := by decide) (hn := by decide) (hv := by first | assumption | rfl) (k := ?_)
            refine mj_b_if2 (hE := fe_126_107) (kt := fun g => ?_) (kf := fun g => ?_)
            · refine mj_b_rload_n (hE := fe_126_174) (hv := rfl) (k := ?_)
              refine mj_b_getQ (hE := fe_126_175) (hM := by assumption) (hv := by assumption) (k := ?_)
              refine mj_b_iconst (hE := fe_126_178) (k := ?_)
              refine mj_b_ialdN (hE := fe_126_179) (c := 1) (hM := by assumption) (ht := Or.inr rfl) (hj := rfl) (hc := by decide) (hn := by decide) (hv := by first | assumption | rfl) (k := ?_)
              refine mj_b_bipush (hE := fe_126_180) (k := ?_)
              refine mj_b_if2 (hE := fe_126_182) (kt := fun g2 => ?_) (kf := fun g2 => ?_)
              · simp only [mj_cnd, decide_eq_true_eq] at g2
                exact p201 (Or.inl g2) _
              · simp only [mj_cnd, decide_eq_false_iff_not] at g2
                refine mj_b_iload (hE := fe_126_185) (hv := rfl) (k := ?_)
                refine mj_b_if1 (hE := fe_126_187) (kt := fun g3 => ?_) (kf := fun g3 => ?_)
                · simp only [mj_cnd, decide_eq_true_eq, pz_0] at g3
                  rw [g3] at hfr
                  have hh : ar_has S.1 p = true := by simpa using hfr
                  exact p205 fr _ _ (by rw [g3]; exact hfr) (by unfold a_lckR; rw [if_neg hno1, if_neg hno3, if_neg]; rintro (x | x); exact g2 x; rw [hh] at x; cases x.1)
                · simp only [mj_cnd, decide_eq_false_iff_not, pz_0, Bool.not_eq_false] at g3
                  rw [g3] at hfr
                  have hh : ar_has S.1 p = false := by simpa using hfr
                  refine mj_b_rload_n (hE := fe_126_190) (hv := rfl) (k := ?_)
                  refine mj_b_getQ (hE := fe_126_191) (hM := by assumption) (hv := by assumption) (k := ?_)
                  refine mj_b_iconst (hE := fe_126_194) (k := ?_)
                  refine mj_b_ialdN (hE := fe_126_195) (c := 0) (hM := by assumption) (ht := Or.inr rfl) (hj := rfl) (hc := by decide) (hn := by decide) (hv := by first | assumption | rfl) (k := ?_)
                  refine mj_b_bipush (hE := fe_126_196) (k := ?_)
                  refine mj_b_if2 (hE := fe_126_198) (kt := fun g4 => ?_) (kf := fun g4 => ?_)
                  · simp only [mj_cnd, decide_eq_true_eq] at g4
                    rw [show (13 : Int32) = nI 13 from rfl, nI_lt_iff (by omega) (by omega)] at g4
                    exact p205 fr _ _ (by rw [g3]; exact hfr) (by unfold a_lckR; rw [if_neg hno1, if_neg hno3, if_neg]; rintro (x | x); exact g2 x; omega)
                  · simp only [mj_cnd, decide_eq_false_iff_not] at g4
                    rw [show (13 : Int32) = nI 13 from rfl, nI_lt_iff (by omega) (by omega)] at g4
                    exact p201 (Or.inr ⟨hh, by omega⟩) _
            · simp [mj_cnd] at g
          | succ k ih =>
            intro i v8 hi hany
            have hlt : i < S.2.1.length := by omega
            have hgi : S.2.1[i]? = some S.2.1[i] := List.getElem?_eq_getElem hlt
            obtain ⟨-, e1, e2, -⟩ := hall.1.2.2.2.2.1 i _ hgi
            rw [Nat.mul_zero, Nat.zero_add] at e1 e2
            rw [drop_get hlt, List.any_cons] at hany
            have hnx : ∀ v8, a_way p xc dq S.2.1[i] = false → mj_T pj_P 126 168 [.ref 87, .int p, .int (pz xc), .int (pz dq), .int t, .int 0, .int (pz fr), .int (nI i), v8] [] (mz_SH L, I1, R) (mo_post L I R (o_lck S H f w ms p xc dq t)) := by
              intro v8 hw
              rw [hw, Bool.false_or] at hany
              refine mj_b_iinc (hE := fe_126_168) (hv := rfl) (k := ?_)
              refine mj_b_goto (hE := fe_126_171) (k := ?_)
              refine (show mj_T pj_P 126 99 [.ref 87, .int p, .int (pz xc), .int (pz dq), .int t, .int 0, .int (pz fr), .int (nI i + 1), v8] [] (mz_SH L, I1, R) _ from ?_)
              rw [← nI_succ]
              exact ih (i + 1) v8 (by omega) hany
            have hyes : a_way p xc dq S.2.1[i] = true → ∀ Lc, mj_T pj_P 126 164 Lc [] (mz_SH L, I1, R) (mo_post L I R (o_lck S H f w ms p xc dq t)) := by
              intro hw Lc
              rw [hw, Bool.true_or] at hany
              refine mj_b_sipush (hE := fe_126_164) (k := ?_)
              exact mj_b_retI (hE := fe_126_167) (hi := in_126) (hrf2 423 (by unfold a_lckR; rw [if_neg hno1, if_pos (Or.inr hany)]) (by decide) (by decide))
            have p143 : ∀ mt : Bool, mt = (a_cov p S.2.1[i] || (dq && pf_below (S.2.1[i]).2.1 p)) → ∀ v8, mj_T pj_P 126 143 [.ref 87, .int p, .int (pz xc), .int (pz dq), .int t, .int 0, .int (pz fr), .int (nI i), v8] [.int (pz mt)] (mz_SH L, I1, R) (mo_post L I R (o_lck S H f w ms p xc dq t)) := by
              intro mt hmt v8
              refine mj_b_istore (hE := fe_126_143) (hx := Nat.le_of_ble_eq_true rfl) (k := ?_)
              refine mj_b_iload (hE := fe_126_145) (hv := rfl) (k := ?_)
              refine mj_b_if1 (hE := fe_126_147) (kt := fun k1 => ?_) (kf := fun k1 => ?_)
              · simp only [mj_cnd, decide_eq_true_eq, pz_0] at k1
                exact hnx _ (by unfold a_way; rw [← hmt, k1]; rfl)
              · simp only [mj_cnd, decide_eq_false_iff_not, pz_0, Bool.not_eq_false] at k1
                refine mj_b_iload_n (hE := fe_126_150) (hv := rfl) (k := ?_)
                refine mj_b_if1 (hE := fe_126_151) (kt := fun k2 => ?_) (kf := fun k2 => ?_)
                · simp only [mj_cnd, Bool.not_eq_true', decide_eq_false_iff_not, pz_0, Bool.not_eq_false] at k2
                  exact hyes (by unfold a_way; rw [← hmt, k1, k2]; rfl) _
                · simp only [mj_cnd, Bool.not_eq_false', decide_eq_true_eq, pz_0] at k2
                  refine mj_b_rload_n (hE := fe_126_154) (hv := rfl) (k := ?_)
                  refine mj_b_getQ (hE := fe_126_155) (hM := by assumption) (hv := by assumption) (k := ?_)
                  refine mj_b_iload (hE := fe_126_158) (hv := rfl) (k := ?_)
                  refine mj_b_baldN (hE := fe_126_160) (v := pz (S.2.1[i]).2.2.2.1) (hM := h95) (hj := rfl) (hc := by omega) (hn := by decide) (hv := e2) (k := ?_)
                  refine mj_b_if1 (hE := fe_126_161) (kt := fun k3 => ?_) (kf := fun k3 => ?_)
                  · simp only [mj_cnd, decide_eq_true_eq, pz_0] at k3
                    exact hnx _ (by unfold a_way; rw [k2, k3]; simp)
                  · simp only [mj_cnd, decide_eq_false_iff_not, pz_0, Bool.not_eq_false] at k3
                    exact hyes (by unfold a_way; rw [← hmt, k1, k3]; simp) _
            refine mj_b_iload (hE := fe_126_99) (hv := rfl) (k := ?_)
            refine mj_b_rload_n (hE := fe_126_101) (hv := rfl) (k := ?_)
            refine mj_b_getQ (hE := fe_126_102) (hM := by assumption) (hv := by assumption) (k := ?_)
            refine mj_b_iconst (hE := fe_126_105) (k := ?_)
            refine mj_b_ialdN (hE := fe_126_106) (c := 1) (hM := by assumption) (ht := Or.inr rfl) (hj := rfl) (hc := by decide) (hn := by decide) (hv := by first | assumption | rfl) (k := ?_)
            refine mj_b_if2 (hE := fe_126_107) (kt := fun g => ?_) (kf := fun g => ?_)
            · simp only [mj_cnd, decide_eq_true_eq] at g
              exact absurd g (nI_ge (by omega) (by omega))
            · refine mj_b_rload_n (hE := fe_126_110) (hv := rfl) (k := ?_)
              refine mj_b_iload (hE := fe_126_111) (hv := rfl) (k := ?_)
              refine mj_b_iload_n (hE := fe_126_113) (hv := rfl) (k := ?_)
              refine mj_b_callR (hE := fe_126_114) (hi := in_99) (h1 := hen.cv hm0 p hgi) (hc := mj_cok_v rfl rfl h87) (ha := rfl) (hr := rfl) ?_
              refine mj_b_if1 (hE := fe_126_117) (kt := fun k1 => ?_) (kf := fun k1 => ?_)
              · simp only [mj_cnd, Bool.not_eq_true', decide_eq_false_iff_not, pz_0, Bool.not_eq_false] at k1
                refine mj_b_iconst (hE := fe_126_138) (k := ?_)
                refine mj_b_goto (hE := fe_126_139) (k := ?_)
                exact p143 true (by rw [k1]; rfl) _
              · simp only [mj_cnd, Bool.not_eq_false', decide_eq_true_eq, pz_0] at k1
                refine mj_b_iload_n (hE := fe_126_120) (hv := rfl) (k := ?_)
                refine mj_b_if1 (hE := fe_126_121) (kt := fun k2 => ?_) (kf := fun k2 => ?_)
                · simp only [mj_cnd, decide_eq_true_eq, pz_0] at k2
                  refine mj_b_iconst (hE := fe_126_142) (k := ?_)
                  exact p143 false (by rw [k1, k2]; rfl) _
                · simp only [mj_cnd, decide_eq_false_iff_not, pz_0, Bool.not_eq_false] at k2
                  refine mj_b_rload_n (hE := fe_126_124) (hv := rfl) (k := ?_)
                  refine mj_b_getQ (hE := fe_126_125) (hM := by assumption) (hv := by assumption) (k := ?_)
                  refine mj_b_iload (hE := fe_126_128) (hv := rfl) (k := ?_)
                  refine mj_b_ialdN (hE := fe_126_130) (hM := h94) (ht := Or.inr rfl) (hj := rfl) (hc := by omega) (hn := by decide) (hv := e1) (k := ?_)
                  refine mj_b_iload_n (hE := fe_126_131) (hv := rfl) (k := ?_)
                  refine mj_b_callR (hE := fe_126_132) (hi := in_100) (h1 := g100 _ _ _) (hc := mj_cok_s rfl) (ha := rfl) (hr := rfl) ?_
                  refine mj_b_if1 (hE := fe_126_135) (kt := fun k3 => ?_) (kf := fun k3 => ?_)
                  · simp only [mj_cnd, decide_eq_true_eq, pz_0] at k3
                    refine mj_b_iconst (hE := fe_126_142) (k := ?_)
                    exact p143 false (by rw [k1, k3]; simp) _
                  · simp only [mj_cnd, decide_eq_false_iff_not, pz_0, Bool.not_eq_false] at k3
                    refine mj_b_iconst (hE := fe_126_138) (k := ?_)
                    refine mj_b_goto (hE := fe_126_139) (k := ?_)
                    exact p143 true (by rw [k2, k3]; simp) _
        have p96 : ¬ (ar_has S.1 p = false ∧ a_coll S.1 (p / 8) = false) → ¬ (ar_has S.1 p = false ∧ a_bar S.2.1 (a_sub H.1) (p / 8) = true) → mj_T pj_P 126 96 [.ref 87, .int p, .int (pz xc), .int (pz dq), .int t, .int 0, .int (pz fr), .retAddr 0, .retAddr 0] [] (mz_SH L, I1, R) (mo_post L I R (o_lck S H f w ms p xc dq t)) := by
          intro hno1 hno2
          refine mj_b_iconst (hE := fe_126_96) (k := ?_)
          refine mj_b_istore (hE := fe_126_97) (hx := Nat.le_of_ble_eq_true rfl) (k := ?_)
          exact loop hno1 hno2 S.2.1.length 0 _ (by omega) rfl
        have p76 : ¬ (ar_has S.1 p = false ∧ a_coll S.1 (p / 8) = false) → mj_T pj_P 126 76 [.ref 87, .int p, .int (pz xc), .int (pz dq), .int t, .int 0, .int (pz fr), .retAddr 0, .retAddr 0] [] (mz_SH L, I1, R) (mo_post L I R (o_lck S H f w ms p xc dq t)) := by
          intro hno1
          refine mj_b_iload (hE := fe_126_76) (hv := rfl) (k := ?_)
          refine mj_b_if1 (hE := fe_126_78) (kt := fun k1 => ?_) (kf := fun k1 => ?_)
          · simp only [mj_cnd, decide_eq_true_eq, pz_0] at k1
            have hh : ar_has S.1 p = true := by rw [k1] at hfr; simpa using hfr
            exact p96 hno1 (by rw [hh]; rintro ⟨x, -⟩; cases x)
          · simp only [mj_cnd, decide_eq_false_iff_not, pz_0, Bool.not_eq_false] at k1
            have hh : ar_has S.1 p = false := by rw [k1] at hfr; simpa using hfr
            refine mj_b_rload_n (hE := fe_126_81) (hv := rfl) (k := ?_)
            refine mj_b_iload_n (hE := fe_126_82) (hv := rfl) (k := ?_)
            refine mj_b_bipush (hE := fe_126_83) (k := ?_)
            refine mj_b_idiv (hE := fe_126_85) (hb := by decide) (k := ?_)
            refine mj_b_callR (hE := fe_126_86) (hi := in_105) (h1 := hen.bar hm0 (p / 8)) (hc := mj_cok_v rfl rfl h87) (ha := rfl) (hr := rfl) ?_
            refine mj_b_if1 (hE := fe_126_89) (kt := fun k2 => ?_) (kf := fun k2 => ?_)
            · simp only [mj_cnd, decide_eq_true_eq, pz_0] at k2
              exact p96 hno1 (by rw [k2]; rintro ⟨-, x⟩; cases x)
            · simp only [mj_cnd, decide_eq_false_iff_not, pz_0, Bool.not_eq_false] at k2
              refine mj_b_sipush (hE := fe_126_92) (k := ?_)
              exact mj_b_retI (hE := fe_126_95) (hi := in_126) (hrf2 423 (by unfold a_lckR; rw [if_neg hno1, if_pos (Or.inl ⟨hh, k2⟩)]) (by decide) (by decide))
        refine mj_b_istore (hE := fe_126_54) (hx := Nat.le_of_ble_eq_true rfl) (k := ?_)
        refine mj_b_iload (hE := fe_126_56) (hv := rfl) (k := ?_)
        refine mj_b_if1 (hE := fe_126_58) (kt := fun k1 => ?_) (kf := fun k1 => ?_)
        · simp only [mj_cnd, decide_eq_true_eq, pz_0] at k1
          have hh : ar_has S.1 p = true := by rw [k1] at hfr; simpa using hfr
          exact p76 (by rw [hh]; rintro ⟨x, -⟩; cases x)
        · simp only [mj_cnd, decide_eq_false_iff_not, pz_0, Bool.not_eq_false] at k1
          have hh : ar_has S.1 p = false := by rw [k1] at hfr; simpa using hfr
          refine mj_b_rload_n (hE := fe_126_61) (hv := rfl) (k := ?_)
          refine mj_b_iload_n (hE := fe_126_62) (hv := rfl) (k := ?_)
          refine mj_b_bipush (hE := fe_126_63) (k := ?_)
          refine mj_b_idiv (hE := fe_126_65) (hb := by decide) (k := ?_)
          refine mj_b_callR (hE := fe_126_66) (hi := in_104) (h1 := hen.fol hm0 hr (p / 8)) (hc := mj_cok_v rfl rfl h87) (ha := rfl) (hr := rfl) ?_
          refine mj_b_if1 (hE := fe_126_69) (kt := fun k2 => ?_) (kf := fun k2 => ?_)
          · simp only [mj_cnd, Bool.not_eq_true', decide_eq_false_iff_not, pz_0, Bool.not_eq_false] at k2
            exact p76 (by rw [k2]; rintro ⟨-, x⟩; cases x)
          · simp only [mj_cnd, Bool.not_eq_false', decide_eq_true_eq, pz_0] at k2
            refine mj_b_sipush (hE := fe_126_72) (k := ?_)
            exact mj_b_retI (hE := fe_126_75) (hi := in_126) (hrf2 409 (by unfold a_lckR; rw [if_pos ⟨hh, k2⟩]) (by decide) (by decide))
      refine (show mj_T pj_P 126 30 [.ref 87, .int p, .int (pz xc), .int (pz dq), .int t, .retAddr 0, .retAddr 0, .retAddr 0, .retAddr 0] [.int 0] (mz_SH L, I1, R) _ from ?_)
      refine mj_b_istore (hE := fe_126_30) (hx := Nat.le_of_ble_eq_true rfl) (k := ?_)
      refine mj_b_iload (hE := fe_126_32) (hv := rfl) (k := ?_)
      refine mj_b_if1 (hE := fe_126_34) (kt := fun g => ?_) (kf := fun g => absurd g (by decide))
      refine mj_b_rload_n (hE := fe_126_40) (hv := rfl) (k := ?_)
      refine mj_b_iload_n (hE := fe_126_41) (hv := rfl) (k := ?_)
      refine mj_b_iconst (hE := fe_126_42) (k := ?_)
      refine mj_b_callR (hE := fe_126_43) (hi := in_101) (h1 := hen.fnd hm0 hr p) (hc := mj_cok_v rfl rfl h87) (ha := rfl) (hr := rfl) ?_
      refine mj_b_if1 (hE := fe_126_46) (kt := fun k1 => ?_) (kf := fun k1 => ?_)
      · simp only [mj_cnd, decide_eq_true_eq] at k1
        rw [hpos] at k1
        refine mj_b_iconst (hE := fe_126_53) (k := ?_)
        exact p54 false (by rw [k1]; rfl)
      · simp only [mj_cnd, decide_eq_false_iff_not] at k1
        rw [hpos, Bool.not_eq_true] at k1
        refine mj_b_iconst (hE := fe_126_49) (k := ?_)
        refine mj_b_goto (hE := fe_126_50) (k := ?_)
        exact p54 true (by rw [k1]; rfl)
    all_goals
      rw [e, if_neg (by decide)]
      refine mj_b_istore (hE := fe_126_30) (hx := Nat.le_of_ble_eq_true rfl) (k := ?_)
      refine mj_b_iload (hE := fe_126_32) (hv := rfl) (k := ?_)
      refine mj_b_if1 (hE := fe_126_34) (kt := fun g => absurd g (by decide)) (kf := fun g => ?_)
      refine mj_b_iload (hE := fe_126_37) (hv := rfl) (k := ?_)
      exact mj_b_retI (hE := fe_126_39) (hi := in_126) (hrf _ (by unfold a_two; rw [e, if_neg (by decide)]) (by decide) (by decide))
  refine mj_enter in_126 (L := [.ref 87, .int p, .int (pz xc), .int (pz dq), .int t, .retAddr 0, .retAddr 0, .retAddr 0, .retAddr 0]) rfl ?_
  refine mj_b_rload_n (hE := fe_126_0) (hv := rfl) (k := ?_)
  refine mj_b_iload_n (hE := fe_126_1) (hv := rfl) (k := ?_)
  refine mj_b_callR (hE := fe_126_2) (hi := in_92) (h1 := g92 _ _) (hc := mj_cok_s rfl) (ha := rfl) (hr := rfl) ?_
  refine mj_b_if1 (hE := fe_126_5) (kt := fun h5 => ?_) (kf := fun h5 => ?_)
  · simp only [mj_cnd, decide_eq_true_eq, decide_eq_false_iff_not, Bool.not_eq_true', Bool.not_eq_false', pz_0, Bool.not_eq_false, Bool.not_eq_true] at h5
    refine mj_b_iconst (hE := fe_126_25) (k := ?_)
    exact p26 false (by simp [pf_from, h5])
  · simp only [mj_cnd, decide_eq_true_eq, decide_eq_false_iff_not, Bool.not_eq_true', Bool.not_eq_false', pz_0, Bool.not_eq_false, Bool.not_eq_true] at h5
    refine mj_b_iload (hE := fe_126_8) (hv := rfl) (k := ?_)
    refine mj_b_iconst (hE := fe_126_10) (k := ?_)
    refine mj_b_if2 (hE := fe_126_11) (kt := fun h11 => ?_) (kf := fun h11 => ?_)
    · simp only [mj_cnd, decide_eq_true_eq, decide_eq_false_iff_not, Bool.not_eq_true', Bool.not_eq_false', pz_0, Bool.not_eq_false, Bool.not_eq_true] at h11
      refine mj_b_iconst (hE := fe_126_25) (k := ?_)
      exact p26 false (by simp [pf_from, h5, h11])
    · simp only [mj_cnd, decide_eq_true_eq, decide_eq_false_iff_not, Bool.not_eq_true', Bool.not_eq_false', pz_0, Bool.not_eq_false, Bool.not_eq_true] at h11
      refine mj_b_iload (hE := fe_126_14) (hv := rfl) (k := ?_)
      refine mj_b_bipush (hE := fe_126_16) (k := ?_)
      refine mj_b_if2 (hE := fe_126_18) (kt := fun h18 => ?_) (kf := fun h18 => ?_)
      · simp only [mj_cnd, decide_eq_true_eq, decide_eq_false_iff_not, Bool.not_eq_true', Bool.not_eq_false', pz_0, Bool.not_eq_false, Bool.not_eq_true] at h18
        refine mj_b_iconst (hE := fe_126_25) (k := ?_)
        exact p26 false (by simp [pf_from, h5, h11, h18])
      · simp only [mj_cnd, decide_eq_true_eq, decide_eq_false_iff_not, Bool.not_eq_true', Bool.not_eq_false', pz_0, Bool.not_eq_false, Bool.not_eq_true] at h18
        refine mj_b_iconst (hE := fe_126_21) (k := ?_)
        refine mj_b_goto (hE := fe_126_22) (k := ?_)
        exact p26 true (by simp [pf_from, h5, h11, h18])
end NG
