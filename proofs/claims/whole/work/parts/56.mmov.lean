/-! ===== the model: move ===== -/
section NL
variable {L n : Nat} {S Sx : ty_st} {H : ty_hd} {rs : List ty_rw} {U : ty_st} {ts hs ms : List Int32} {f w : Int32} {I I' I0 I1 : Nat → Nat → Int32} {R : Nat → Nat → Option Nat} {Q : Option Value × mj_H → Prop} {z : Int32 × Int32}
/-- a row of the second side changes its path -/
theorem md_rep.pth1 {j : Nat} {r : ty_rw} (h : md_rep 1 U I) (hj : U.1[j]? = some r) (v : Int32) : md_rep 1 (U.1.set j (v, r.2), U.2) (mj_u I 88 (20 + j) v) ∧ fr_2 I (mj_u I 88 (20 + j) v) := by
  obtain ⟨h0, ⟨a1, a2⟩, ⟨b1, b2⟩, hr, hl, c1, c2, c3⟩ := h
  simp only [Nat.mul_one, Nat.reduceAdd] at a1 b1 hr hl c1 c2 c3
  have hjl := (List.getElem?_eq_some_iff.mp hj).1
  refine ⟨⟨h0, ⟨?_, by simpa using a2⟩, ⟨?_, b2⟩, ?_, ?_, ?_, ?_, ?_⟩, ?_⟩
  · simp [mj_u, a1]
  · simp [mj_u, b1]
  · intro i q hi
    simp only [Nat.mul_one]
    dsimp only at hi
    rw [List.getElem?_set] at hi
    by_cases hij : j = i
    · subst hij
      simp [hjl] at hi
      obtain ⟨k0, k1, k2, k3, k4, k5, k6⟩ := hr j r hj
      rw [← hi]
      exact ⟨by simp [mj_u], by simp [mj_u, k1], by simp [mj_u, k2], by simp [mj_u, k3], by simp [mj_u, k4], by simp [mj_u, k5], by simp [mj_u, k6]⟩
    · simp [hij] at hi
      obtain ⟨k0, k1, k2, k3, k4, k5, k6⟩ := hr i q hi
      have hne : ¬ i = j := fun e => hij e.symm
      exact ⟨by simp [mj_u, k0, hne], by simp [mj_u, k1], by simp [mj_u, k2], by simp [mj_u, k3], by simp [mj_u, k4], by simp [mj_u, k5], by simp [mj_u, k6]⟩
  · intro i l hi
    simp only [Nat.mul_one]
    exact (hl i l hi).eq (fun x k h1 h2 => mj_u_na _ _ _ _ (by omega))
  · simp [mj_u, c1]
  · simp [mj_u, c2]
  · simp [mj_u, c3]
  · intro x k h1 h2 h3 h4
    have e1 : ¬ (x = 88 ∧ k = 20 + j) := by omega
    simp only [mj_u, e1, if_false]
theorem set_mid {α : Type} (A : List α) (x y : α) (C : List α) : (A ++ x :: C).set A.length y = A ++ y :: C := by simp
def mv_f (p q : Int32) (r : ty_rw) : ty_rw := if pf_within r.1 p = true then (pf_answering r.1 p q, r.2) else r
set_option maxHeartbeats 2000000 in
theorem l124 {p q : Int32} {v3 v4 v5 : Value} {B : List ty_rw} {z2 : List ty_lk × Int32 × Int32 × Int32} (hm : mm_ok R) (hp : pf_path p = true) (hq : pf_path q = true) (hp0 : p ≠ 0) (hB : ∀ r ∈ B, pf_path r.1 = true) (h13 : B.length ≤ 13)
    (hk : ∀ I1 v6, md_rep 1 (B.map (mv_f p q), z2) I1 → fr_2 I0 I1 → mj_T pj_P 124 131 [.ref 87, .int p, .int q, v3, v4, v5, v6] [] (mz_SH L, I1, R) Q) :
    ∀ (k i : Nat) (I1 : Nat → Nat → Int32), i + k = B.length → md_rep 1 ((B.take i).map (mv_f p q) ++ B.drop i, z2) I1 → fr_2 I0 I1 → mj_T pj_P 124 78 [.ref 87, .int p, .int q, v3, v4, v5, .int (nI (20 + i))] [] (mz_SH L, I1, R) Q := by
  have hm0 := hm
  obtain ⟨q0, q1, q2, q3, q4, q5, q6, q7, q8, q9, q10, q11, q16, q21⟩ := hm
  have h87 := sm_87 L
  have h88 := sm_88 L
  have h98 := sm_98 L
  intro k
  induction k with
  | zero =>
    intro i I1 hi h hf
    have hin : i = B.length := by omega
    subst hin
    have hn := h.2.1.1
    rw [Nat.mul_one] at hn
    rw [List.take_length, List.drop_length, List.append_nil] at h
    have hn2 : I1 98 5 = nI B.length := by rw [hn]; simp
    refine mj_b_iload (hE := fe_124_78) (hv := rfl) (k := ?_)
    refine mj_b_bipush (hE := fe_124_80) (k := ?_)
    refine mj_b_rload_n (hE := fe_124_82) (hv := rfl) (k := ?_)
    refine mj_b_getQ (hE := fe_124_83) (hM := by assumption) (hv := by assumption) (k := ?_)
    refine mj_b_iconst (hE := fe_124_86) (k := ?_)
    refine mj_b_ialdN (hE := fe_124_87) (c := 5) (hM := by assumption) (ht := Or.inr rfl) (hj := rfl) (hc := by decide) (hn := by decide) (v := nI B.length) (hv := hn2) (k := ?_)
    refine mj_b_iadd (hE := fe_124_88) (k := ?_)
    refine (show mj_T pj_P 124 89 _ [.int (nI 20 + nI B.length), .int (nI (20 + B.length))] _ _ from ?_)
    rw [nI_add]
    refine mj_b_if2 (hE := fe_124_89) (kt := fun g => ?_) (kf := fun g => ?_)
    · exact hk _ _ h hf
    · simp [mj_cnd] at g
  | succ k ih =>
    intro i I1 hi h hf
    have hlt : i < B.length := by omega
    have hn := h.2.1.1
    rw [Nat.mul_one] at hn
    have hll : ((B.take i).map (mv_f p q)).length = i := by rw [List.length_map, List.length_take]; omega
    have hlen : ((B.take i).map (mv_f p q) ++ B.drop i).length = B.length := by rw [List.length_append, hll, List.length_drop]; omega
    have hn2 : I1 98 5 = nI B.length := by rw [hn]; dsimp only; rw [hlen]
    have hgi : ((B.take i).map (mv_f p q) ++ B.drop i)[i]? = some B[i] := by
      rw [List.getElem?_append_right (by omega), hll, Nat.sub_self, drop_get hlt]
      rfl
    have hpth := (h.2.2.2.1 i _ hgi).1
    rw [Nat.mul_one] at hpth
    have hst : (B.take (i + 1)).map (mv_f p q) ++ B.drop (i + 1) = ((B.take i).map (mv_f p q) ++ B.drop i).set i (mv_f p q B[i]) := by
      rw [← List.take_append_getElem hlt, List.map_append, List.append_assoc, drop_get hlt]
      have e := set_mid ((B.take i).map (mv_f p q)) B[i] (mv_f p q B[i]) (B.drop (i + 1))
      rw [hll] at e
      rw [e]
      rfl
    have hnx : ∀ I2, md_rep 1 ((B.take (i + 1)).map (mv_f p q) ++ B.drop (i + 1), z2) I2 → fr_2 I0 I2 → mj_T pj_P 124 125 [.ref 87, .int p, .int q, v3, v4, v5, .int (nI (20 + i))] [] (mz_SH L, I2, R) Q := by
      intro I2 h2 hf2
      refine mj_b_iinc (hE := fe_124_125) (hv := rfl) (k := ?_)
      refine mj_b_goto (hE := fe_124_128) (k := ?_)
      refine (show mj_T pj_P 124 78 [.ref 87, .int p, .int q, v3, v4, v5, .int (nI (20 + i) + 1)] [] (mz_SH L, I2, R) Q from ?_)
      rw [← nI_succ]
      exact ih (i + 1) I2 (by omega) h2 hf2
    refine mj_b_iload (hE := fe_124_78) (hv := rfl) (k := ?_)
    refine mj_b_bipush (hE := fe_124_80) (k := ?_)
    refine mj_b_rload_n (hE := fe_124_82) (hv := rfl) (k := ?_)
    refine mj_b_getQ (hE := fe_124_83) (hM := by assumption) (hv := by assumption) (k := ?_)
    refine mj_b_iconst (hE := fe_124_86) (k := ?_)
    refine mj_b_ialdN (hE := fe_124_87) (c := 5) (hM := by assumption) (ht := Or.inr rfl) (hj := rfl) (hc := by decide) (hn := by decide) (v := nI B.length) (hv := hn2) (k := ?_)
    refine mj_b_iadd (hE := fe_124_88) (k := ?_)
    refine (show mj_T pj_P 124 89 _ [.int (nI 20 + nI B.length), .int (nI (20 + i))] _ _ from ?_)
    rw [nI_add]
    refine mj_b_if2 (hE := fe_124_89) (kt := fun g => ?_) (kf := fun g => ?_)
    · simp only [mj_cnd, decide_eq_true_eq] at g
      exact absurd g (by rw [nI_le_iff (by omega) (by omega)]; omega)
    · refine mj_b_rload_n (hE := fe_124_92) (hv := rfl) (k := ?_)
      refine mj_b_getQ (hE := fe_124_93) (hM := by assumption) (hv := by assumption) (k := ?_)
      refine mj_b_iload (hE := fe_124_96) (hv := rfl) (k := ?_)
      refine mj_b_ialdN (hE := fe_124_98) (hM := h88) (ht := Or.inr rfl) (hj := rfl) (hc := by omega) (hn := by decide) (hv := hpth) (k := ?_)
      refine mj_b_iload_n (hE := fe_124_99) (hv := rfl) (k := ?_)
      refine mj_b_callR (hE := fe_124_100) (hi := in_116) (h1 := g116 _ _ _) (hc := mj_cok_s rfl) (ha := rfl) (hr := rfl) ?_
      refine mj_b_if1 (hE := fe_124_103) (kt := fun k1 => ?_) (kf := fun k1 => ?_)
      · simp only [mj_cnd, decide_eq_true_eq, pz_0] at k1
        refine hnx I1 ?_ hf
        rw [hst]
        have : mv_f p q B[i] = B[i] := by unfold mv_f; rw [if_neg (by rw [k1]; decide)]
        rw [this, drop_get hlt]
        have e := set_mid ((B.take i).map (mv_f p q)) B[i] B[i] (B.drop (i + 1))
        rw [hll] at e
        rw [e, ← drop_get hlt]
        exact h
      · simp only [mj_cnd, decide_eq_false_iff_not, pz_0, Bool.not_eq_false] at k1
        obtain ⟨hb1, hb2⟩ := h.pth1 (j := i) (r := B[i]) hgi (pf_answering (B[i]).1 p q)
        refine mj_b_rload_n (hE := fe_124_106) (hv := rfl) (k := ?_)
        refine mj_b_getQ (hE := fe_124_107) (hM := by assumption) (hv := by assumption) (k := ?_)
        refine mj_b_iload (hE := fe_124_110) (hv := rfl) (k := ?_)
        refine mj_b_rload_n (hE := fe_124_112) (hv := rfl) (k := ?_)
        refine mj_b_getQ (hE := fe_124_113) (hM := by assumption) (hv := by assumption) (k := ?_)
        refine mj_b_iload (hE := fe_124_116) (hv := rfl) (k := ?_)
        refine mj_b_ialdN (hE := fe_124_118) (hM := h88) (ht := Or.inr rfl) (hj := rfl) (hc := by omega) (hn := by decide) (hv := hpth) (k := ?_)
        refine mj_b_iload_n (hE := fe_124_119) (hv := rfl) (k := ?_)
        refine mj_b_iload_n (hE := fe_124_120) (hv := rfl) (k := ?_)
        refine mj_b_callR (hE := fe_124_121) (hi := in_123) (h1 := g123 (hB _ (List.getElem_mem hlt)) hp hq hp0 k1) (hc := mj_cok_s rfl) (ha := rfl) (hr := rfl) ?_
        refine mj_b_iastN (hE := fe_124_124) (hM := h88) (hj := rfl) (hc := by omega) (hn := by decide) (k := ?_)
        refine hnx _ ?_ (hf.trans hb2)
        rw [hst]
        have : mv_f p q B[i] = (pf_answering (B[i]).1 p q, (B[i]).2) := by unfold mv_f; rw [if_pos k1]
        rw [this]
        exact hb1
set_option maxHeartbeats 4000000 in
/-- LockedTreeModel.move -/
theorem g124 (p q : Int32) (ov : Bool) (hm : mm_ok R) (h : m_all (rs, S.2) hs f w ms I) (hr : m_rel n S H f rs hs) :
    mj_G pj_P 124 [.ref 87, .int p, .int q, .int (pz ov)] (mz_SH L, I, R) (mo_post L I R (o_mov S H f w ms p q ov)) := by
  have hm0 := hm
  obtain ⟨q0, q1, q2, q3, q4, q5, q6, q7, q8, q9, q10, q11, q16, q21⟩ := hm
  have h87 := sm_87 L
  have h13 := hr.2.1.1.2.1
  have p20 : ∀ ok : Bool, ok = (pf_path p && pf_path q) → mj_T pj_P 124 20 [.ref 87, .int p, .int q, .int (pz ov), .retAddr 0, .retAddr 0, .retAddr 0] [.int (pz ok), .ref 87] (mz_SH L, I, R) (mo_post L I R (o_mov S H f w ms p q ov)) := by
    intro ok hok
    refine mj_b_iload_n (hE := fe_124_20) (hv := rfl) (k := ?_)
    refine mj_b_call (hE := fe_124_21) (hi := in_93) (h1 := g93S p ok hm0 h hr) (hc := mj_cok_v rfl rfl h87) (ha := rfl) (hr := rfl) ?_
    rintro v' M1 ⟨I1, hM, fM, hall, hb, hop⟩
    cases hM
    have hrf : ∀ c, a_two (a_two (a_fstR S.1 S.2.1 H p ok) (a_tgtR S.1 p q ov)) (a_movR S.1 S.2.1 (a_sub H.1) p q) = c → c ≠ -1 → c ≠ 207 → mo_post L I R (o_mov S H f w ms p q ov) (some (.int c), (mz_SH L, I1, R)) := by
      intro c hc h1 h2
      have e : o_mov S H f w ms p q ov = o_ref S w ms c := by unfold o_mov o_ans; rw [← hok, hc, if_neg h1]
      rw [e]
      exact mo_ref hr hall fM h2
    rcases a_fst_cases S H p ok with e | e | e
    · have h2t : a_two (a_two (a_fstR S.1 S.2.1 H p ok) (a_tgtR S.1 p q ov)) (a_movR S.1 S.2.1 (a_sub H.1) p q) = wy_R S (a_sub H.1) p q true ov true := by
        unfold wy_R a_two
        rw [if_pos e]
        simp
      obtain ⟨hu, ts, hsb, hsub⟩ := hop e
      have hen : m_env S H f w rs ts I I1 := ⟨fM, hall, hb, hu, hsb, hsub⟩
      have hok3 := a_fstR_ok e
      rw [hok, Bool.and_eq_true] at hok3
      obtain ⟨hpp, hqq⟩ := hok3
      have hnegq := hr.neg q
      have g119c := g119 (L := L) p q true ov true (fun _ => rfl) hpp hqq hen hm0 hr
      rw [e, if_pos rfl]
      refine (show mj_T pj_P 124 24 [.ref 87, .int p, .int q, .int (pz ov), .retAddr 0, .retAddr 0, .retAddr 0] [.int 0] (mz_SH L, I1, R) _ from ?_)
      refine mj_b_istore (hE := fe_124_24) (hx := Nat.le_of_ble_eq_true rfl) (k := ?_)
      refine mj_b_iload (hE := fe_124_26) (hv := rfl) (k := ?_)
      refine mj_b_if1 (hE := fe_124_28) (kt := fun g => ?_) (kf := fun g => absurd g (by decide))
      refine mj_b_rload_n (hE := fe_124_34) (hv := rfl) (k := ?_)
      refine mj_b_iload_n (hE := fe_124_35) (hv := rfl) (k := ?_)
      refine mj_b_iload_n (hE := fe_124_36) (hv := rfl) (k := ?_)
      refine mj_b_iconst (hE := fe_124_37) (k := ?_)
      refine mj_b_iload_n (hE := fe_124_38) (hv := rfl) (k := ?_)
      refine mj_b_iconst (hE := fe_124_39) (k := ?_)
      refine mj_b_callR (hE := fe_124_40) (hi := in_119) (h1 := g119c) (hc := mj_cok_v rfl rfl h87) (ha := rfl) (hr := rfl) ?_
      by_cases hwy : wy_R S (a_sub H.1) p q true ov true = -1
      · rw [if_pos hwy]
        rw [hwy] at h2t
        have hcar : o_mov S H f w ms p q ov = o_car S f w ms (x_mov S p q) (if ar_has S.1 q = true then 204 else 201) := by unfold o_mov o_ans; rw [← hok, h2t, if_pos rfl]
        rw [hcar]
        obtain ⟨htg, hmv⟩ := a_two_ok hwy
        simp only [if_true] at hmv
        obtain ⟨hq0, t2, -⟩ := a_tgtR_ok htg
        have hp0 := a_tgt_p0 hqq hq0 t2
        have hwm := wf_mov hr.2.1.pre hpp hqq htg hmv
        refine mj_b_istore (hE := fe_124_43) (hx := Nat.le_of_ble_eq_true rfl) (k := ?_)
        refine mj_b_iload (hE := fe_124_45) (hv := rfl) (k := ?_)
        refine mj_b_if1 (hE := fe_124_47) (kt := fun g => ?_) (kf := fun g => absurd g (by decide))
        have p67 : ∀ wa : Bool, wa = ar_has S.1 q → mj_T pj_P 124 67 [.ref 87, .int p, .int q, .int (pz ov), .int 0, .retAddr 0, .retAddr 0] [.int (pz wa)] (mz_SH L, I1, R) (mo_post L I R (o_car S f w ms (x_mov S p q) (if ar_has S.1 q = true then 204 else 201))) := by
          intro wa hwa
          refine mj_b_istore (hE := fe_124_67) (hx := Nat.le_of_ble_eq_true rfl) (k := ?_)
          refine mj_b_rload_n (hE := fe_124_69) (hv := rfl) (k := ?_)
          refine mj_b_iload_n (hE := fe_124_70) (hv := rfl) (k := ?_)
          refine mj_b_call (hE := fe_124_71) (hi := in_122) (h1 := g122 q hm0 hu) (hc := mj_cok_v rfl rfl h87) (ha := rfl) (hr := rfl) ?_
          rintro v' M1 ⟨I2, B, hM, hu2, hB, f2⟩
          cases hM
          dsimp only at hB hu2
          have hBS : B.Perm (S.1.filter (ar_out q)) := hB.trans (hr.1.filter _)
          have hB13 := hu2.2.1.2
          dsimp only at hB13
          have hxp : (B.map (mv_f p q)).Perm (x_mov S p q).1 := mov_perm hr.2.1.pre hpp hqq htg hmv hBS
          refine (show mj_T pj_P 124 74 [.ref 87, .int p, .int q, .int (pz ov), .int 0, .int (pz wa), .retAddr 0] [] (mz_SH L, I2, R) _ from ?_)
          refine mj_b_bipush (hE := fe_124_74) (k := ?_)
          refine mj_b_istore (hE := fe_124_76) (hx := Nat.le_of_ble_eq_true rfl) (k := ?_)
          refine l124 (I0 := I1) (B := B) (z2 := S.2) hm0 hpp hqq hp0 (fun r hr2 => (hr.2.1.1.2.2.1 r (List.mem_filter.mp (hBS.mem_iff.mp hr2)).1).1) hB13 ?_ B.length 0 I2 (by omega) (by simpa using hu2) f2
          intro I3 v6 hu3 f3
          refine mj_b_rload_n (hE := fe_124_131) (hv := rfl) (k := ?_)
          refine mj_b_iload (hE := fe_124_132) (hv := rfl) (k := ?_)
          refine mj_b_if1 (hE := fe_124_134) (kt := fun k => ?_) (kf := fun k => ?_)
          · simp only [mj_cnd, decide_eq_true_eq, pz_0] at k
            rw [k] at hwa
            rw [← hwa, if_neg (by decide)]
            refine mj_b_sipush (hE := fe_124_143) (k := ?_)
            refine mj_b_call (hE := fe_124_146) (hi := in_108) (h1 := hen.car (ms := ms) (Sx := x_mov S p q) hm0 hr (Nat.le_refl _) f3 hu3 hwm hxp (fin_same hxp rfl hr.live) (by decide)) (hc := mj_cok_v rfl rfl h87) (ha := rfl) (hr := rfl) ?_
            intro v' M2 hpo
            obtain ⟨I4, rs2, hM, hrest⟩ := id hpo
            cases hM
            exact mj_b_retI (hE := fe_124_149) (hi := in_124) hpo
          · simp only [mj_cnd, decide_eq_false_iff_not, pz_0, Bool.not_eq_false] at k
            rw [k] at hwa
            rw [← hwa, if_pos rfl]
            refine mj_b_sipush (hE := fe_124_137) (k := ?_)
            refine mj_b_goto (hE := fe_124_140) (k := ?_)
            refine mj_b_call (hE := fe_124_146) (hi := in_108) (h1 := hen.car (ms := ms) (Sx := x_mov S p q) hm0 hr (Nat.le_refl _) f3 hu3 hwm hxp (fin_same hxp rfl hr.live) (by decide)) (hc := mj_cok_v rfl rfl h87) (ha := rfl) (hr := rfl) ?_
            intro v' M2 hpo
            obtain ⟨I4, rs2, hM, hrest⟩ := id hpo
            cases hM
            exact mj_b_retI (hE := fe_124_149) (hi := in_124) hpo
        refine mj_b_rload_n (hE := fe_124_53) (hv := rfl) (k := ?_)
        refine mj_b_iload_n (hE := fe_124_54) (hv := rfl) (k := ?_)
        refine mj_b_iconst (hE := fe_124_55) (k := ?_)
        refine mj_b_callR (hE := fe_124_56) (hi := in_101) (h1 := hen.fnd hm0 hr q) (hc := mj_cok_v rfl rfl h87) (ha := rfl) (hr := rfl) ?_
        refine mj_b_if1 (hE := fe_124_59) (kt := fun k => ?_) (kf := fun k => ?_)
        · simp only [mj_cnd, decide_eq_true_eq] at k
          rw [hnegq] at k
          refine mj_b_iconst (hE := fe_124_66) (k := ?_)
          exact p67 false k.symm
        · simp only [mj_cnd, decide_eq_false_iff_not] at k
          rw [hnegq, Bool.not_eq_false] at k
          refine mj_b_iconst (hE := fe_124_62) (k := ?_)
          refine mj_b_goto (hE := fe_124_63) (k := ?_)
          exact p67 true k.symm
      · rw [if_neg hwy]
        have hcs : ∃ c, wy_R S (a_sub H.1) p q true ov true = c ∧ c ≠ 0 ∧ c ≠ -1 ∧ c ≠ 207 := by
          refine ⟨_, rfl, ?_, hwy, ?_⟩
          · unfold wy_R a_two a_tgtR a_movR
            simp only [if_true]
            repeat' split
            all_goals decide
          · unfold wy_R a_two a_tgtR a_movR
            simp only [if_true]
            repeat' split
            all_goals decide
        obtain ⟨c, hc, hc0, hc1, hc2⟩ := hcs
        rw [hc] at h2t ⊢
        refine mj_b_istore (hE := fe_124_43) (hx := Nat.le_of_ble_eq_true rfl) (k := ?_)
        refine mj_b_iload (hE := fe_124_45) (hv := rfl) (k := ?_)
        refine mj_b_if1 (hE := fe_124_47) (kt := fun g2 => ?_) (kf := fun g2 => ?_)
        · simp only [mj_cnd, decide_eq_true_eq] at g2
          exact absurd g2 hc0
        · refine mj_b_iload (hE := fe_124_50) (hv := rfl) (k := ?_)
          exact mj_b_retI (hE := fe_124_52) (hi := in_124) (hrf c h2t hc1 hc2)
    all_goals
      rw [e, if_neg (by decide)]
      refine mj_b_istore (hE := fe_124_24) (hx := Nat.le_of_ble_eq_true rfl) (k := ?_)
      refine mj_b_iload (hE := fe_124_26) (hv := rfl) (k := ?_)
      refine mj_b_if1 (hE := fe_124_28) (kt := fun g => absurd g (by decide)) (kf := fun g => ?_)
      refine mj_b_iload (hE := fe_124_31) (hv := rfl) (k := ?_)
      exact mj_b_retI (hE := fe_124_33) (hi := in_124) (hrf _ (by unfold a_two; rw [e]; simp) (by decide) (by decide))
  refine mj_enter in_124 (L := [.ref 87, .int p, .int q, .int (pz ov), .retAddr 0, .retAddr 0, .retAddr 0]) rfl ?_
  refine mj_b_rload_n (hE := fe_124_0) (hv := rfl) (k := ?_)
  refine mj_b_iload_n (hE := fe_124_1) (hv := rfl) (k := ?_)
  refine mj_b_callR (hE := fe_124_2) (hi := in_92) (h1 := g92 _ _) (hc := mj_cok_s rfl) (ha := rfl) (hr := rfl) ?_
  refine mj_b_if1 (hE := fe_124_5) (kt := fun h5 => ?_) (kf := fun h5 => ?_)
  · simp only [mj_cnd, decide_eq_true_eq, decide_eq_false_iff_not, Bool.not_eq_true', Bool.not_eq_false', pz_0, Bool.not_eq_false, Bool.not_eq_true] at h5
    refine mj_b_iconst (hE := fe_124_19) (k := ?_)
    exact p20 false (by simp [h5])
  · simp only [mj_cnd, decide_eq_true_eq, decide_eq_false_iff_not, Bool.not_eq_true', Bool.not_eq_false', pz_0, Bool.not_eq_false, Bool.not_eq_true] at h5
    refine mj_b_iload_n (hE := fe_124_8) (hv := rfl) (k := ?_)
    refine mj_b_callR (hE := fe_124_9) (hi := in_92) (h1 := g92 _ _) (hc := mj_cok_s rfl) (ha := rfl) (hr := rfl) ?_
    refine mj_b_if1 (hE := fe_124_12) (kt := fun h12 => ?_) (kf := fun h12 => ?_)
    · simp only [mj_cnd, decide_eq_true_eq, decide_eq_false_iff_not, Bool.not_eq_true', Bool.not_eq_false', pz_0, Bool.not_eq_false, Bool.not_eq_true] at h12
      refine mj_b_iconst (hE := fe_124_19) (k := ?_)
      exact p20 false (by simp [h5, h12])
    · simp only [mj_cnd, decide_eq_true_eq, decide_eq_false_iff_not, Bool.not_eq_true', Bool.not_eq_false', pz_0, Bool.not_eq_false, Bool.not_eq_true] at h12
      refine mj_b_iconst (hE := fe_124_15) (k := ?_)
      refine mj_b_goto (hE := fe_124_16) (k := ?_)
      exact p20 true (by simp [h5, h12])
end NL
