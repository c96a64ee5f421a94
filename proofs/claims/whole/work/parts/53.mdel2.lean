/-! ===== the model: delete ===== -/
section NI
variable {L n : Nat} {S Sx : ty_st} {H : ty_hd} {rs : List ty_rw} {U : ty_st} {ts hs ms : List Int32} {f w : Int32} {I I' I0 I1 : Nat → Nat → Int32} {R : Nat → Nat → Option Nat} {Q : Option Value × mj_H → Prop} {z : Int32 × Int32}
theorem g115S (h0 : md_rep 0 (rs, S.2) I) (hs1 : sb_rep ts I) (hsub : sb_of ts = a_sub H.1) (hm : mm_ok R) (hr : m_rel n S H f rs hs) (x p : Int32) : mj_G pj_P 115 [.ref 87, .int x, .int p] (mz_SH L, I, R) (fun s => s = (some (.int (pz ((!decide (x = p) && a_clg S.2.1 (a_sub H.1) x) || S.1.any (fun r => pf_below r.1 x && a_clg S.2.1 (a_sub H.1) r.1)))), (mz_SH L, I, R))) := by
  have := g115' (L := L) x p hm h0 hs1
  dsimp only at this
  rwa [hsub, hr.1.any_eq] at this
set_option maxHeartbeats 2000000 in
theorem l113b {p : Int32} {v2 v3 v4 : Value} (hm : mm_ok R) (hr : m_rel n S H f rs hs) (hp : pf_path p = true) (h0 : md_rep 0 (rs, S.2) I0) (hs1 : sb_rep ts I0) (hsub : sb_of ts = a_sub H.1)
    (hk : ∀ I1 B v5 v6, md_rep 1 (B, S.2) I1 → B.Perm (rs.filter (fun r => !a_gos (a_mul S (a_sub H.1) p) p r)) → fr_2 I0 I1 → mj_T pj_P 113 199 [.ref 87, .int p, v2, v3, v4, v5, v6] [] (mz_SH L, I1, R) Q) :
    ∀ (i : Nat) (I1 : Nat → Nat → Int32) (B : List ty_rw) (v6 : Value), i ≤ rs.length → md_rep 1 (rs.take i ++ B, S.2) I1 → B.Perm ((rs.drop i).filter (fun r => !a_gos (a_mul S (a_sub H.1) p) p r)) → fr_2 I0 I1 → mj_T pj_P 113 139 [.ref 87, .int p, v2, v3, v4, .int (nI (19 + i)), v6] [] (mz_SH L, I1, R) Q := by
  have hm0 := hm
  obtain ⟨q0, q1, q2, q3, q4, q5, q6, q7, q8, q9, q10, q11, q16, q21⟩ := hm
  have h87 := sm_87 L
  have h88 := sm_88 L
  have h13 := hr.2.1.1.2.1
  have hlen := hr.len
  intro i
  induction i with
  | zero =>
    intro I1 B v6 hi h hB hf
    refine mj_b_iload (hE := fe_113_139) (hv := rfl) (k := ?_)
    refine mj_b_bipush (hE := fe_113_141) (k := ?_)
    refine mj_b_if2 (hE := fe_113_143) (kt := fun g => ?_) (kf := fun g => ?_)
    · exact hk _ B _ _ h hB hf
    · exact absurd g (by decide)
  | succ j ih =>
    intro I1 B v6 hi h hB hf
    have hlt : j < rs.length := by omega
    have hgj : (rs.take (j + 1) ++ B)[j]? = some rs[j] := by
      rw [List.getElem?_append_left (by rw [List.length_take]; omega), List.getElem?_take_of_lt (by omega)]
      exact List.getElem?_eq_getElem hlt
    have hrw := h.2.2.2.1 j _ hgj
    rw [Nat.mul_one] at hrw
    have hpth := hrw.1
    have hmem : rs[j] ∈ S.1 := hr.1.mem_iff.mp (List.getElem_mem hlt)
    obtain ⟨s1, s2⟩ := sw_step (g := a_gos (a_mul S (a_sub H.1) p) p) hlt hB
    have hnx : ∀ I2 B v6, md_rep 1 (rs.take j ++ B, S.2) I2 → B.Perm ((rs.drop j).filter (fun r => !a_gos (a_mul S (a_sub H.1) p) p r)) → fr_2 I0 I2 → mj_T pj_P 113 193 [.ref 87, .int p, v2, v3, v4, .int (nI (20 + j)), v6] [] (mz_SH L, I2, R) Q := by
      intro I2 B v6 h2 hB2 hf2
      refine mj_b_iinc (hE := fe_113_193) (hv := rfl) (k := ?_)
      refine mj_b_goto (hE := fe_113_196) (k := ?_)
      refine (show mj_T pj_P 113 139 [.ref 87, .int p, v2, v3, v4, .int (nI (20 + j) + -1), v6] [] (mz_SH L, I2, R) Q from ?_)
      have e : nI (20 + j) + -1 = nI (19 + j) := by
        rw [show 20 + j = 19 + j + 1 by omega, nI_succ, Int32.add_assoc, show (1 : Int32) + -1 = 0 from rfl, Int32.add_zero]
      rw [e]
      exact ih I2 B v6 (by omega) h2 hB2 hf2
    have p180 : ∀ gs : Bool, gs = a_gos (a_mul S (a_sub H.1) p) p rs[j] → ∀ v6, mj_T pj_P 113 180 [.ref 87, .int p, v2, v3, v4, .int (nI (20 + j)), v6] [.int (pz gs)] (mz_SH L, I1, R) Q := by
      intro gs hgs v6
      refine mj_b_istore (hE := fe_113_180) (hx := Nat.le_of_ble_eq_true rfl) (k := ?_)
      refine mj_b_iload (hE := fe_113_182) (hv := rfl) (k := ?_)
      refine mj_b_if1 (hE := fe_113_184) (kt := fun k => ?_) (kf := fun k => ?_)
      · simp only [mj_cnd, decide_eq_true_eq, pz_0] at k
        obtain ⟨b1, b2⟩ := s2 (by rw [← hgs]; exact k)
        rw [b2] at h
        exact hnx I1 _ _ h b1 hf
      · simp only [mj_cnd, decide_eq_false_iff_not, pz_0, Bool.not_eq_false] at k
        obtain ⟨B', b1, b2⟩ := s1 (by rw [← hgs]; exact k)
        refine mj_b_rload_n (hE := fe_113_187) (hv := rfl) (k := ?_)
        refine mj_b_iload (hE := fe_113_188) (hv := rfl) (k := ?_)
        refine mj_b_call (hE := fe_113_190) (hi := in_117) (h1 := g117 (i := j) hm0 h (by rw [List.length_append, List.length_take]; omega)) (hc := mj_cok_v rfl rfl h87) (ha := rfl) (hr := rfl) ?_
        rintro v' M1 ⟨I2, hM, h2, hf2⟩
        cases hM
        dsimp only at h2
        rw [b2] at h2
        exact hnx I2 B' _ h2 b1 (hf.trans hf2)
    rw [show 19 + (j + 1) = 20 + j by omega]
    refine mj_b_iload (hE := fe_113_139) (hv := rfl) (k := ?_)
    refine mj_b_bipush (hE := fe_113_141) (k := ?_)
    refine mj_b_if2 (hE := fe_113_143) (kt := fun g => ?_) (kf := fun g => ?_)
    · simp only [mj_cnd, decide_eq_true_eq] at g
      exact absurd g (by rw [show (20 : Int32) = nI 20 from rfl, nI_lt_iff (by omega) (by omega)]; omega)
    · refine mj_b_rload_n (hE := fe_113_146) (hv := rfl) (k := ?_)
      refine mj_b_getQ (hE := fe_113_147) (hM := by assumption) (hv := by assumption) (k := ?_)
      refine mj_b_iload (hE := fe_113_150) (hv := rfl) (k := ?_)
      refine mj_b_ialdN (hE := fe_113_152) (hM := h88) (ht := Or.inr rfl) (hj := rfl) (hc := by omega) (hn := by decide) (hv := hpth) (k := ?_)
      refine mj_b_iload_n (hE := fe_113_153) (hv := rfl) (k := ?_)
      refine mj_b_callR (hE := fe_113_154) (hi := in_116) (h1 := g116 _ _ _) (hc := mj_cok_s rfl) (ha := rfl) (hr := rfl) ?_
      refine mj_b_if1 (hE := fe_113_157) (kt := fun k => ?_) (kf := fun k => ?_)
      · simp only [mj_cnd, decide_eq_true_eq, pz_0] at k
        refine mj_b_iconst (hE := fe_113_179) (k := ?_)
        exact p180 false (by simp [a_gos, k]) _
      · simp only [mj_cnd, decide_eq_false_iff_not, pz_0, Bool.not_eq_false] at k
        have hrem := del_rem (S := S) (sub := a_sub H.1) hp (fun r h => (hr.2.1.1.2.2.1 r h).1) hmem k
        have g115c := g115S (L := L) (h0.two hf) (hs1.two hf) hsub hm0 hr (rs[j]).1 p
        rw [← hrem] at g115c
        refine mj_b_rload_n (hE := fe_113_160) (hv := rfl) (k := ?_)
        refine mj_b_rload_n (hE := fe_113_161) (hv := rfl) (k := ?_)
        refine mj_b_getQ (hE := fe_113_162) (hM := by assumption) (hv := by assumption) (k := ?_)
        refine mj_b_iload (hE := fe_113_165) (hv := rfl) (k := ?_)
        refine mj_b_ialdN (hE := fe_113_167) (hM := h88) (ht := Or.inr rfl) (hj := rfl) (hc := by omega) (hn := by decide) (hv := hpth) (k := ?_)
        refine mj_b_iload_n (hE := fe_113_168) (hv := rfl) (k := ?_)
        refine mj_b_callR (hE := fe_113_169) (hi := in_115) (h1 := g115c) (hc := mj_cok_v rfl rfl h87) (ha := rfl) (hr := rfl) ?_
        refine mj_b_if1 (hE := fe_113_172) (kt := fun k2 => ?_) (kf := fun k2 => ?_)
        · simp only [mj_cnd, Bool.not_eq_true', decide_eq_false_iff_not, pz_0, Bool.not_eq_false] at k2
          refine mj_b_iconst (hE := fe_113_179) (k := ?_)
          exact p180 false (by simp [a_gos, k2]) _
        · simp only [mj_cnd, Bool.not_eq_false', decide_eq_true_eq, pz_0] at k2
          refine mj_b_iconst (hE := fe_113_175) (k := ?_)
          refine mj_b_goto (hE := fe_113_176) (k := ?_)
          exact p180 true (by simp [a_gos, k, k2]) _
set_option maxHeartbeats 4000000 in
/-- LockedTreeModel.delete -/
theorem g113 (p : Int32) (hm : mm_ok R) (h : m_all (rs, S.2) hs f w ms I) (hr : m_rel n S H f rs hs) :
    mj_G pj_P 113 [.ref 87, .int p] (mz_SH L, I, R) (mo_post L I R (o_del S H f w ms p)) := by
  have hm0 := hm
  obtain ⟨q0, q1, q2, q3, q4, q5, q6, q7, q8, q9, q10, q11, q16, q21⟩ := hm
  have h87 := sm_87 L
  have h98 := sm_98 L
  have h13 := hr.2.1.1.2.1
  have hlen := hr.len
  refine mj_enter in_113 (L := [.ref 87, .int p, .retAddr 0, .retAddr 0, .retAddr 0, .retAddr 0, .retAddr 0]) rfl ?_
  refine mj_b_rload_n (hE := fe_113_0) (hv := rfl) (k := ?_)
  refine mj_b_iload_n (hE := fe_113_1) (hv := rfl) (k := ?_)
  refine mj_b_callR (hE := fe_113_2) (hi := in_92) (h1 := g92 _ _) (hc := mj_cok_s rfl) (ha := rfl) (hr := rfl) ?_
  refine mj_b_iload_n (hE := fe_113_5) (hv := rfl) (k := ?_)
  refine mj_b_call (hE := fe_113_6) (hi := in_93) (h1 := g93S p (pf_path p) hm0 h hr) (hc := mj_cok_v rfl rfl h87) (ha := rfl) (hr := rfl) ?_
  rintro v' M1 ⟨I1, hM, fM, hall, hb, hop⟩
  cases hM
  have hrf : ∀ c, a_two (a_fstR S.1 S.2.1 H p (pf_path p)) (a_delR S.1 S.2.1 (a_sub H.1) p) = c → c ≠ -1 → c ≠ 207 → mo_post L I R (o_del S H f w ms p) (some (.int c), (mz_SH L, I1, R)) := by
    intro c hc h1 h2
    have e : o_del S H f w ms p = o_ref S w ms c := by unfold o_del o_ans; rw [hc, if_neg h1]
    rw [e]
    exact mo_ref hr hall fM h2
  rcases a_fst_cases S H p (pf_path p) with e | e | e
  · have hrf2 : ∀ c, a_delR S.1 S.2.1 (a_sub H.1) p = c → c ≠ -1 → c ≠ 207 → mo_post L I R (o_del S H f w ms p) (some (.int c), (mz_SH L, I1, R)) := fun c hc h1 h2 => hrf c (by unfold a_two; rw [if_pos e]; exact hc) h1 h2
    obtain ⟨hu, ts, hsb, hsub⟩ := hop e
    have hen : m_env S H f w rs ts I I1 := ⟨fM, hall, hb, hu, hsb, hsub⟩
    have hpp : pf_path p = true := a_fstR_ok e
    have hpos := hr.pos p
    rw [e, if_pos rfl]
    refine (show mj_T pj_P 113 9 [.ref 87, .int p, .retAddr 0, .retAddr 0, .retAddr 0, .retAddr 0, .retAddr 0] [.int 0] (mz_SH L, I1, R) _ from ?_)
    refine mj_b_istore_n (hE := fe_113_9) (hx := Nat.le_of_ble_eq_true rfl) (k := ?_)
    refine mj_b_iload_n (hE := fe_113_10) (hv := rfl) (k := ?_)
    refine mj_b_if1 (hE := fe_113_11) (kt := fun g => ?_) (kf := fun g => absurd g (by decide))
    refine mj_b_iload_n (hE := fe_113_16) (hv := rfl) (k := ?_)
    refine mj_b_if1 (hE := fe_113_17) (kt := fun k0 => ?_) (kf := fun k0 => ?_)
    · simp only [mj_cnd, Bool.not_eq_true', decide_eq_false_iff_not] at k0
      refine mj_b_rload_n (hE := fe_113_24) (hv := rfl) (k := ?_)
      refine mj_b_iload_n (hE := fe_113_25) (hv := rfl) (k := ?_)
      refine mj_b_iconst (hE := fe_113_26) (k := ?_)
      refine mj_b_callR (hE := fe_113_27) (hi := in_101) (h1 := hen.fnd hm0 hr p) (hc := mj_cok_v rfl rfl h87) (ha := rfl) (hr := rfl) ?_
      refine mj_b_if1 (hE := fe_113_30) (kt := fun k1 => ?_) (kf := fun k1 => ?_)
      · simp only [mj_cnd, decide_eq_true_eq] at k1
        rw [hpos] at k1
        refine mj_b_rload_n (hE := fe_113_37) (hv := rfl) (k := ?_)
        refine mj_b_iload_n (hE := fe_113_38) (hv := rfl) (k := ?_)
        refine mj_b_callR (hE := fe_113_39) (hi := in_114) (h1 := hen.cli hm0 p) (hc := mj_cok_v rfl rfl h87) (ha := rfl) (hr := rfl) ?_
        refine mj_b_if1 (hE := fe_113_42) (kt := fun k2 => ?_) (kf := fun k2 => ?_)
        · simp only [mj_cnd, decide_eq_true_eq, pz_0] at k2
          have hbar : ¬ (a_bar S.2.1 (a_sub H.1) p = true ∨ a_bar S.2.1 (a_sub H.1) (p / 8) = true) := by
            unfold a_clg at k2
            rw [Bool.or_eq_false_iff] at k2
            rw [k2.1, k2.2]
            simp
          have hok2 : a_delR S.1 S.2.1 (a_sub H.1) p = -1 := by
            unfold a_delR
            rw [if_neg k0, if_neg (by rw [k1]; decide), if_neg hbar]
          have hcar : o_del S H f w ms p = o_car S f w (a_mul S (a_sub H.1) p) (x_del S (a_sub H.1) p) (if a_mul S (a_sub H.1) p = [] then 204 else 207) := by
            unfold o_del o_ans a_two
            rw [if_pos e, if_pos hok2]
          have hl12 := a_mul_len (S := S) (sub := a_sub H.1) hpp k1 h13
          have hwd := wf_del hr.2.1.pre (a_sub H.1) k0
          rw [hcar]
          -- the rows go
          have p128 : ∀ (I2 : Nat → Nat → Int32) (al : Bool) (v2 v5 v6 : Value), m_env S H f w rs ts I I2 → (∀ i v, (a_mul S (a_sub H.1) p)[i]? = some v → I2 101 i = v) → al = decide (a_mul S (a_sub H.1) p = []) → mj_T pj_P 113 128 [.ref 87, .int p, v2, .int (pz al), .int (nI (a_mul S (a_sub H.1) p).length), v5, v6] [] (mz_SH L, I2, R) (mo_post L I R (o_car S f w (a_mul S (a_sub H.1) p) (x_del S (a_sub H.1) p) (if a_mul S (a_sub H.1) p = [] then 204 else 207))) := by
            intro I2 al v2 v5 v6 he hst hal
            have a5 := he.2.2.2.1.2.1.1
            rw [Nat.mul_one] at a5
            refine mj_b_bipush (hE := fe_113_128) (k := ?_)
            refine mj_b_rload_n (hE := fe_113_130) (hv := rfl) (k := ?_)
            refine mj_b_getQ (hE := fe_113_131) (hM := by assumption) (hv := by assumption) (k := ?_)
            refine mj_b_iconst (hE := fe_113_134) (k := ?_)
            refine mj_b_ialdN (hE := fe_113_135) (c := 5) (hM := by assumption) (ht := Or.inr rfl) (hj := rfl) (hc := by decide) (hn := by decide) (hv := by first | assumption | rfl) (k := ?_)
            refine mj_b_iadd (hE := fe_113_136) (k := ?_)
            refine mj_b_istore (hE := fe_113_137) (hx := Nat.le_of_ble_eq_true rfl) (k := ?_)
            refine (show mj_T pj_P 113 139 [.ref 87, .int p, v2, .int (pz al), .int (nI (a_mul S (a_sub H.1) p).length), .int (nI 19 + nI rs.length), v6] [] _ _ from ?_)
            rw [nI_add]
            refine l113b (I0 := I2) hm0 hr hpp he.2.1.1 he.2.2.2.2.1 hsub ?_ rs.length I2 [] _ (Nat.le_refl _) (by rw [List.take_length, List.append_nil]; exact he.2.2.2.1) (by rw [List.drop_length]; exact List.Perm.refl _) fr_2.refl
            intro I3 B v5 v6 hu3 hB f3
            have hxp : B.Perm (x_del S (a_sub H.1) p).1 := hB.trans (hr.1.filter _)
            have hxn : ar_nd (x_del S (a_sub H.1) p).1 := hwd.1.1.nd
            have hfin := fin_same (U := (B, S.2)) (Sx := x_del S (a_sub H.1) p) hxp rfl hr.live
            have hst3 : ∀ i v, (a_mul S (a_sub H.1) p)[i]? = some v → I3 101 i = v := fun i v hi => by rw [f3 _ _ (by omega) (by omega) (by omega) (by omega)]; exact hst i v hi
            have p213 : ∀ st : Int32, st = (if a_mul S (a_sub H.1) p = [] then 204 else 207) → mj_T pj_P 113 213 [.ref 87, .int p, v2, .int (pz al), .int (nI (a_mul S (a_sub H.1) p).length), v5, v6] [.int st, .ref 87] (mz_SH L, I3, R) (mo_post L I R (o_car S f w (a_mul S (a_sub H.1) p) (x_del S (a_sub H.1) p) (if a_mul S (a_sub H.1) p = [] then 204 else 207))) := by
              intro st hst2
              rw [← hst2]
              refine mj_b_call (hE := fe_113_213) (hi := in_108) (h1 := g108 st hm0 (he.2.1.two f3) hu3 (by rw [f3 _ _ (by omega) (by omega) (by omega) (by omega)]; exact he.2.2.1) hr.2.2.2.2 hr.ndT (hxn.perm hxp.symm) hr.kind (fun r hr2 => (hwd.1.2.2.1 r (hxp.mem_iff.mp hr2)).2)) (hc := mj_cok_v rfl rfl h87) (ha := rfl) (hr := rfl) ?_
              intro v' M2 hcl
              obtain ⟨I4, rs2, hM, fM4, hall4, hp4, h101⟩ := mo_car' (ms := a_mul S (a_sub H.1) p) hr hxn (al_sorted_nd hwd.2.1.1) hxp hfin hcl
              have hM2 : v' = some (.int (o_car S f w (a_mul S (a_sub H.1) p) (x_del S (a_sub H.1) p) st).1) ∧ M2 = (mz_SH L, I4, R) := by
                injection hM with x1 x2
                exact ⟨x1, x2⟩
              obtain ⟨rfl, rfl⟩ := hM2
              have hms2 : (o_car S f w (a_mul S (a_sub H.1) p) (x_del S (a_sub H.1) p) st).2.2.2 = a_ms (o_car S f w (a_mul S (a_sub H.1) p) (x_del S (a_sub H.1) p) st).1 (a_mul S (a_sub H.1) p) := rfl
              have fin : ∀ c : Int32, c = nI (a_ms (o_car S f w (a_mul S (a_sub H.1) p) (x_del S (a_sub H.1) p) st).1 (a_mul S (a_sub H.1) p)).length → mj_T pj_P 113 233 [.ref 87, .int p, v2, .int (pz al), .int (nI (a_mul S (a_sub H.1) p).length), .int (o_car S f w (a_mul S (a_sub H.1) p) (x_del S (a_sub H.1) p) st).1, v6] [.int c, .ref 87] (mz_SH L, I4, R) (mo_post L I R (o_car S f w (a_mul S (a_sub H.1) p) (x_del S (a_sub H.1) p) st)) := by
                intro c hc
                refine mj_b_putI (hE := fe_113_233) (hw := Or.inl rfl) (hM := by assumption) (k := ?_)
                refine mj_b_iload (hE := fe_113_236) (hv := rfl) (k := ?_)
                refine mj_b_retI (hE := fe_113_238) (hi := in_113) ⟨_, rs2, rfl, ((he.1.trans f3.M).trans fM4).trans (fr_M.u (by omega) (by omega)), ?_, hp4⟩
                rw [hms2]
                obtain ⟨b1, ⟨b2, b3⟩, b4, b5, b6, ⟨b7, b8⟩, b9⟩ := hall4
                refine ⟨b1.eq (fun x k _ _ => mj_u_na _ _ _ _ (by omega)), ⟨by simp [mj_u, b2], b3⟩, by simp, by simp [mj_u, b5], by simp [mj_u, b6], ⟨by simp [mj_u, hc], ?_⟩, ?_⟩
                · unfold a_ms
                  split
                  · omega
                  · simp
                · intro i v hi
                  unfold a_ms at hi
                  split at hi
                  · rw [mj_u_na _ _ _ _ (by omega)]; exact (h101 i).trans (hst3 i v hi)
                  · simp at hi
              refine (show mj_T pj_P 113 216 [.ref 87, .int p, v2, .int (pz al), .int (nI (a_mul S (a_sub H.1) p).length), v5, v6] [.int (o_car S f w (a_mul S (a_sub H.1) p) (x_del S (a_sub H.1) p) st).1] (mz_SH L, I4, R) _ from ?_)
              refine mj_b_istore (hE := fe_113_216) (hx := Nat.le_of_ble_eq_true rfl) (k := ?_)
              refine mj_b_rload_n (hE := fe_113_218) (hv := rfl) (k := ?_)
              refine mj_b_iload (hE := fe_113_219) (hv := rfl) (k := ?_)
              refine mj_b_sipush (hE := fe_113_221) (k := ?_)
              refine mj_b_if2 (hE := fe_113_224) (kt := fun k3 => ?_) (kf := fun k3 => ?_)
              · simp only [mj_cnd, Bool.not_eq_true', decide_eq_false_iff_not] at k3
                refine mj_b_iconst (hE := fe_113_232) (k := ?_)
                exact fin 0 (by unfold a_ms; rw [if_neg k3]; rfl)
              · simp only [mj_cnd, Bool.not_eq_false', decide_eq_true_eq] at k3
                refine mj_b_iload (hE := fe_113_227) (hv := rfl) (k := ?_)
                refine mj_b_goto (hE := fe_113_229) (k := ?_)
                exact fin _ (by unfold a_ms; rw [if_pos k3])
            refine mj_b_rload_n (hE := fe_113_199) (hv := rfl) (k := ?_)
            refine mj_b_iload_n (hE := fe_113_200) (hv := rfl) (k := ?_)
            refine mj_b_if1 (hE := fe_113_201) (kt := fun k3 => ?_) (kf := fun k3 => ?_)
            · simp only [mj_cnd, decide_eq_true_eq, pz_0] at k3
              refine mj_b_sipush (hE := fe_113_210) (k := ?_)
              refine p213 207 ?_
              rw [if_neg]
              rw [hal] at k3
              exact of_decide_eq_false k3
            · simp only [mj_cnd, decide_eq_false_iff_not, pz_0, Bool.not_eq_false] at k3
              refine mj_b_sipush (hE := fe_113_204) (k := ?_)
              refine mj_b_goto (hE := fe_113_207) (k := ?_)
              refine p213 204 ?_
              rw [if_pos]
              rw [hal] at k3
              exact of_decide_eq_true k3
          have hrem : ((!decide (p = p) && a_clg S.2.1 (a_sub H.1) p) || S.1.any (fun r => pf_below r.1 p && a_clg S.2.1 (a_sub H.1) r.1)) = !decide (a_mul S (a_sub H.1) p = []) := by
            rw [Bool.eq_iff_iff]
            simp only [decide_true, Bool.not_true, Bool.false_and, Bool.false_or, Bool.not_eq_true', decide_eq_false_iff_not]
            rw [List.any_eq_true]
            unfold a_mul
            rw [List.map_eq_nil_iff, List.filter_eq_nil_iff]
            constructor
            · rintro ⟨r, h1, h2⟩ h3
              exact h3 r h1 h2
            · intro h3
              apply Decidable.byContradiction
              intro h4
              exact h3 (fun r h1 h2 => h4 ⟨r, h1, h2⟩)
          have g115c := hen.rem (L := L) hm0 hr p p
          rw [hrem] at g115c
          refine mj_b_rload_n (hE := fe_113_49) (hv := rfl) (k := ?_)
          refine mj_b_iload_n (hE := fe_113_50) (hv := rfl) (k := ?_)
          refine mj_b_iload_n (hE := fe_113_51) (hv := rfl) (k := ?_)
          refine mj_b_callR (hE := fe_113_52) (hi := in_115) (h1 := g115c) (hc := mj_cok_v rfl rfl h87) (ha := rfl) (hr := rfl) ?_
          refine mj_b_if1 (hE := fe_113_55) (kt := fun k3 => ?_) (kf := fun k3 => ?_)
          · simp only [mj_cnd, Bool.not_eq_true', decide_eq_false_iff_not, pz_0, Bool.not_eq_false] at k3
            refine mj_b_iconst (hE := fe_113_62) (k := ?_)
            refine mj_b_istore_n (hE := fe_113_63) (hx := Nat.le_of_ble_eq_true rfl) (k := ?_)
            refine mj_b_iconst (hE := fe_113_64) (k := ?_)
            refine mj_b_istore (hE := fe_113_65) (hx := Nat.le_of_ble_eq_true rfl) (k := ?_)
            refine mj_b_iconst (hE := fe_113_67) (k := ?_)
            refine mj_b_istore (hE := fe_113_68) (hx := Nat.le_of_ble_eq_true rfl) (k := ?_)
            refine (show mj_T pj_P 113 70 [.ref 87, .int p, .int 0, .int (pz false), .int (nI ((List.range' 1 (1 - 1)).filter (dm_X S (a_sub H.1) p)).length), .int (nI 1), .retAddr 0] [] (mz_SH L, I1, R) _ from ?_)
            refine l113a (I := I) hm0 hr hl12 ?_ 4095 1 I1 (by omega) (by omega) hen (by simp)
            intro I2 v5 he hst
            exact p128 I2 false _ _ _ he hst (by rw [eq_comm, decide_eq_false_iff_not]; exact k3)
          · simp only [mj_cnd, Bool.not_eq_false', decide_eq_true_eq, pz_0] at k3
            have k4 : a_mul S (a_sub H.1) p = [] := by simpa using k3
            refine mj_b_iconst (hE := fe_113_58) (k := ?_)
            refine mj_b_goto (hE := fe_113_59) (k := ?_)
            refine mj_b_istore_n (hE := fe_113_63) (hx := Nat.le_of_ble_eq_true rfl) (k := ?_)
            refine mj_b_iconst (hE := fe_113_64) (k := ?_)
            refine mj_b_istore (hE := fe_113_65) (hx := Nat.le_of_ble_eq_true rfl) (k := ?_)
            refine mj_b_iconst (hE := fe_113_67) (k := ?_)
            refine mj_b_istore (hE := fe_113_68) (hx := Nat.le_of_ble_eq_true rfl) (k := ?_)
            have hlen0 : (a_mul S (a_sub H.1) p).length = 0 := by rw [k4]; rfl
            refine (show mj_T pj_P 113 70 [.ref 87, .int p, .int 0, .int (pz true), .int (nI 0), .int (nI 1), .retAddr 0] [] (mz_SH L, I1, R) _ from ?_)
            refine mj_b_iload (hE := fe_113_70) (hv := rfl) (k := ?_)
            refine mj_b_sipush (hE := fe_113_72) (k := ?_)
            refine mj_b_if2 (hE := fe_113_75) (kt := fun g => absurd g (by decide +kernel)) (kf := fun g => ?_)
            refine mj_b_iload_n (hE := fe_113_78) (hv := rfl) (k := ?_)
            refine mj_b_if1 (hE := fe_113_79) (kt := fun g => ?_) (kf := fun g => absurd g (by decide +kernel))
            have := p128 I1 true (.int 0) (.int (nI 1)) (.retAddr 0) hen (by rw [k4]; simp) (by rw [k4]; rfl)
            rw [hlen0] at this
            exact this
        · simp only [mj_cnd, decide_eq_false_iff_not, pz_0, Bool.not_eq_false] at k2
          refine mj_b_sipush (hE := fe_113_45) (k := ?_)
          refine mj_b_retI (hE := fe_113_48) (hi := in_113) (hrf2 423 ?_ (by decide) (by decide))
          unfold a_delR
          rw [if_neg k0, if_neg (by rw [k1]; decide), if_pos]
          unfold a_clg at k2
          rw [Bool.or_eq_true] at k2
          exact k2
      · simp only [mj_cnd, decide_eq_false_iff_not] at k1
        rw [hpos, Bool.not_eq_true] at k1
        refine mj_b_sipush (hE := fe_113_33) (k := ?_)
        exact mj_b_retI (hE := fe_113_36) (hi := in_113) (hrf2 404 (by unfold a_delR; rw [if_neg k0, if_pos k1]) (by decide) (by decide))
    · simp only [mj_cnd, Bool.not_eq_false', decide_eq_true_eq] at k0
      refine mj_b_sipush (hE := fe_113_20) (k := ?_)
      exact mj_b_retI (hE := fe_113_23) (hi := in_113) (hrf2 403 (by unfold a_delR; rw [if_pos k0]) (by decide) (by decide))
  all_goals
    rw [e, if_neg (by decide)]
    refine mj_b_istore_n (hE := fe_113_9) (hx := Nat.le_of_ble_eq_true rfl) (k := ?_)
    refine mj_b_iload_n (hE := fe_113_10) (hv := rfl) (k := ?_)
    refine mj_b_if1 (hE := fe_113_11) (kt := fun g => absurd g (by decide)) (kf := fun g => ?_)
    refine mj_b_iload_n (hE := fe_113_14) (hv := rfl) (k := ?_)
    exact mj_b_retI (hE := fe_113_15) (hi := in_113) (hrf _ (by unfold a_two; rw [e, if_neg (by decide)]) (by decide) (by decide))
end NI
