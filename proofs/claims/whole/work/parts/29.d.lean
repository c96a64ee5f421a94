/-! ===== the class: patch, lock ===== -/
section RD
variable {L sn sx n : Nat} {pn px : Nat → Nat} {S : ty_st} {H : ty_hd} {f w : Int32} {ms : List Int32} {I : Nat → Nat → Int32} {R : Nat → Nat → Option Nat}
theorem a_patR_ok {rs : List ty_rw} {ls : List ty_lk} {sub : Int32 → Bool} {p : Int32} (h : a_patR rs ls sub p = -1) : ar_has rs p = true := by
  unfold a_patR at h
  split at h
  · exact absurd h (by decide)
  · rename_i h1
    simpa using h1
theorem pf_from_02 {k : Int32} (h : pf_from k 0 2 = true) : k = 0 ∨ k = 1 ∨ k = 2 := by
  unfold pf_from at h
  simp only [Bool.and_eq_true, Bool.not_eq_true', decide_eq_false_iff_not] at h
  obtain ⟨h1, h2⟩ := h
  rw [Int32.lt_iff_toInt_lt, Int32.toInt_zero] at h1
  rw [Int32.lt_iff_toInt_lt, show (2 : Int32).toInt = 2 from rfl] at h2
  rcases (show k.toInt = 0 ∨ k.toInt = 1 ∨ k.toInt = 2 by omega) with e | e | e
  · exact Or.inl (Int32.toInt_inj.mp e)
  · exact Or.inr (Or.inl (Int32.toInt_inj.mp e))
  · exact Or.inr (Or.inr (Int32.toInt_inj.mp e))
theorem cs_rep.prop {b j : Nat} {r : ty_rw} {pi : Nat → Nat} (h : cs_rep b pi S I R) (hj : S.1[j]? = some r) {k : Int32} (hk : k = 0 ∨ k = 1 ∨ k = 2) (v : Int32) : cs_rep b pi (S.1.set j (rw_prp k v r), S.2) (mj_u I (cs_row b pi j + 1) k.toNatClampNeg v) R := by
  have hl := (List.getElem?_eq_some_iff.mp hj).1
  refine h.set hl ?_ (fun x q h1 h2 => mj_u_na _ _ _ _ h2)
  have e := h.2.2.2.2.1 j r hj
  rw [← e]
  generalize cs_row b pi j = a
  have hne : ¬ a = a + 1 := by omega
  rcases hk with rfl | rfl | rfl
  · simp [rw_at, rw_prp, mj_u, hne, show (0 : Int32).toNatClampNeg = 0 from rfl]
  · simp [rw_at, rw_prp, mj_u, hne, show (1 : Int32).toNatClampNeg = 1 from rfl]
  · simp [rw_at, rw_prp, mj_u, hne, show (2 : Int32).toNatClampNeg = 2 from rfl]
def o_pat (S : ty_st) (H : ty_hd) (f w : Int32) (ms : List Int32) (p k v : Int32) : ty_oc :=
  o_ans S w ms (a_two (a_fstR S.1 S.2.1 H p (pf_path p && (pf_from k 0 2 && pf_from v 0 999))) (a_patR S.1 S.2.1 (a_sub H.1) p)) (o_car S f w ms (x_pat S p k v) 200)
set_option maxHeartbeats 2000000 in
/-- LockedTree.patch -/
theorem g69 (p k v : Int32) (hw : wf_st n S) (h : c_all sn sx pn px S H f w ms I R) :
    mj_G pj_P 69 [.ref 1, .int p, .int k, .int v] (mz_SH L, I, R) (o_post L I R H (o_pat S H f w ms p k v)) := by
  have h1 := sh_1 L
  have hsx : sx = 2 ∨ sx = 37 := by have := h.2.1; omega
  have hne : sx ≠ sn := by have := h.2.1; omega
  have t1 := h.1.1
  have t2 := h.1.2.1
  have hSx := sh_S L hsx
  have hso : ar_sorted S.1 := hw.1.1
  have h54 : ∀ (rr : Int32) (v4 : Value), rr = a_two (a_fstR S.1 S.2.1 H p (pf_path p && (pf_from k 0 2 && pf_from v 0 999))) (a_patR S.1 S.2.1 (a_sub H.1) p) → mj_T pj_P 69 54 [.ref 1, .int p, .int k, .int v, v4, .int rr, .retAddr 0] [] (mz_SH L, I, R) (o_post L I R H (o_pat S H f w ms p k v)) := by
    intro rr v4 hrr
    refine mj_b_iload (hE := fe_69_54) (hv := rfl) (k := ?_)
    refine mj_b_iconst (hE := fe_69_56) (k := ?_)
    refine mj_b_if2 (hE := fe_69_57) (kt := fun g => ?_) (kf := fun g => ?_)
    · simp only [mj_cnd, decide_eq_true_eq] at g
      rw [hrr] at g
      obtain ⟨g1, g2⟩ := a_two_ok g
      have hh := a_patR_ok g2
      have hok := a_fstR_ok g1
      simp only [Bool.and_eq_true] at hok
      have hk := pf_from_02 hok.2.1
      have hpo : o_pat S H f w ms p k v = o_car S f w ms (x_pat S p k v) 200 := by unfold o_pat o_ans; rw [if_pos g]
      rw [hpo]
      refine mj_b_rload_n (hE := fe_69_67) (hv := rfl) (k := ?_)
      refine mj_b_getQ (hE := fe_69_68) (hM := by assumption) (hv := by assumption) (k := ?_)
      refine mj_b_rload_n (hE := fe_69_71) (hv := rfl) (k := ?_)
      refine mj_b_getQ (hE := fe_69_72) (hM := by assumption) (hv := by assumption) (k := ?_)
      refine mj_b_call (hE := fe_69_75) (hi := in_39) (h1 := g39 hsx hne h.2.2.2.1 h.2.2.1) (hc := mj_cok_v rfl rfl hSx) (ha := rfl) (hr := rfl) ?_
      rintro v' M1 ⟨I1, hM, hx, f1⟩
      cases hM
      have hc1 := h.fr f1 fr_R.refl h.2.2.2.1
      have hfs := ar_fi_has S.1 p
      rw [hh] at hfs
      obtain ⟨j, hj⟩ := Option.isSome_iff_exists.mp hfs
      obtain ⟨r, hr, hrp⟩ := ar_fi_some hj
      have hjl := (List.getElem?_eq_some_iff.mp hr).1
      have hj13 : j < 13 := by have := hx.2.2.1.2; omega
      have hp13 := (hx.2.1.2.2.1 j hj13).2
      have hC : (mz_SH L)[cs_row sx px j]? = some (2, 5) := sh_R L hsx hp13
      have hCp : (mz_SH L)[cs_row sx px j + 1]? = some (65, 3) := by
        rw [show cs_row sx px j + 1 = sx + 4 + 2 * px j by unfold cs_row; omega]
        exact sh_P L hsx hp13
      have hRp : R (cs_row sx px j) 4 = some (cs_row sx px j + 1) := by
        have := hx.2.1.2.2.2.2.1 _ hp13
        rw [show cs_row sx px j + 1 = sx + 4 + 2 * px j by unfold cs_row; omega]
        exact this
      refine (show mj_T pj_P 69 78 [.ref 1, .int p, .int k, .int v, v4, .int rr, .retAddr 0] [] (mz_SH L, I1, R) _ from ?_)
      refine mj_b_rload_n (hE := fe_69_78) (hv := rfl) (k := ?_)
      refine mj_b_getQ (hE := fe_69_79) (hM := by assumption) (hv := by assumption) (k := ?_)
      refine mj_b_iload_n (hE := fe_69_82) (hv := rfl) (k := ?_)
      refine mj_b_callR (hE := fe_69_83) (hi := in_28) (h1 := g28' p hx) (hc := mj_cok_v rfl rfl hSx) (ha := rfl) (hr := rfl) ?_
      rw [hj]
      refine (show mj_T pj_P 69 86 _ [va_rf (some (cs_row sx px j))] _ _ from ?_)
      refine mj_b_astore (hE := fe_69_86) (hx := Nat.le_of_ble_eq_true rfl) (k := ?_)
      refine mj_b_aload (hE := fe_69_88) (hv := rfl) (k := ?_)
      refine mj_b_nul (hE := fe_69_90) (kn := fun q => ?_) (ks := fun qa q => ?_)
      · cases q
      · refine (show mj_T pj_P 69 93 [.ref 1, .int p, .int k, .int v, v4, .int rr, .ref (cs_row sx px j)] [] _ _ from ?_)
        have hix : mj_ix k 3 = true := by rcases hk with rfl | rfl | rfl <;> decide
        refine mj_b_rload (hE := fe_69_93) (hv := rfl) (k := ?_)
        refine mj_b_getQ (hE := fe_69_95) (hM := hC) (hv := hRp) (k := ?_)
        refine mj_b_iload_n (hE := fe_69_98) (hv := rfl) (k := ?_)
        refine mj_b_iload_n (hE := fe_69_99) (hv := rfl) (k := ?_)
        refine mj_b_iast (hE := fe_69_100) (hM := hCp) (hi := hix) (k := ?_)
        refine mj_b_rload_n (hE := fe_69_101) (hv := rfl) (k := ?_)
        refine mj_b_sipush (hE := fe_69_102) (k := ?_)
        have hx3 := hx.prop hr hk v
        rw [ar_upd_set S.1 j r hso.nd hr hrp] at hx3
        have hfr : fr_I sx I1 (mj_u I1 (cs_row sx px j + 1) k.toNatClampNeg v) := fr_I.u (by unfold cs_row; omega) (by unfold cs_row; omega)
        exact q_carry fe_69_105 fe_69_108 in_69 (hc1.fr hfr fr_R.refl h.2.2.2.1) hx3 ((f1.C hsx).trans (hfr.C hsx)) fr_C.refl 200
    · simp only [mj_cnd, decide_eq_false_iff_not] at g
      have hpo : o_pat S H f w ms p k v = o_ref S w ms rr := by unfold o_pat o_ans; rw [← hrr, if_neg g]
      rw [hpo]
      refine mj_b_rload_n (hE := fe_69_60) (hv := rfl) (k := ?_)
      refine mj_b_iload (hE := fe_69_61) (hv := rfl) (k := ?_)
      exact q_close fe_69_63 fe_69_66 in_69 h fr_C.refl fr_C.refl rr
  have h30 : ∀ ok : Bool, ok = (pf_path p && (pf_from k 0 2 && pf_from v 0 999)) → mj_T pj_P 69 30 [.ref 1, .int p, .int k, .int v, .retAddr 0, .retAddr 0, .retAddr 0] [.int (pz ok)] (mz_SH L, I, R) (o_post L I R H (o_pat S H f w ms p k v)) := by
    intro ok hok
    refine mj_b_istore (hE := fe_69_30) (hx := Nat.le_of_ble_eq_true rfl) (k := ?_)
    refine mj_b_rload_n (hE := fe_69_32) (hv := rfl) (k := ?_)
    refine mj_b_iload_n (hE := fe_69_33) (hv := rfl) (k := ?_)
    refine mj_b_iload (hE := fe_69_34) (hv := rfl) (k := ?_)
    refine mj_b_callR (hE := fe_69_36) (hi := in_19) (h1 := g19' h p ok) (hc := mj_cok_v rfl rfl h1) (ha := rfl) (hr := rfl) ?_
    refine mj_b_istore (hE := fe_69_39) (hx := Nat.le_of_ble_eq_true rfl) (k := ?_)
    refine mj_b_iload (hE := fe_69_41) (hv := rfl) (k := ?_)
    refine mj_b_iconst (hE := fe_69_43) (k := ?_)
    refine mj_b_if2 (hE := fe_69_44) (kt := fun g => ?_) (kf := fun g => ?_)
    · simp only [mj_cnd, Bool.not_eq_true', decide_eq_false_iff_not] at g
      exact h54 _ _ (by rw [← hok]; unfold a_two; rw [if_neg g])
    · simp only [mj_cnd, Bool.not_eq_false', decide_eq_true_eq] at g
      refine mj_b_rload_n (hE := fe_69_47) (hv := rfl) (k := ?_)
      refine mj_b_iload_n (hE := fe_69_48) (hv := rfl) (k := ?_)
      refine mj_b_callR (hE := fe_69_49) (hi := in_71) (h1 := g71' h p) (hc := mj_cok_v rfl rfl h1) (ha := rfl) (hr := rfl) ?_
      refine mj_b_istore (hE := fe_69_52) (hx := Nat.le_of_ble_eq_true rfl) (k := ?_)
      exact h54 _ _ (by rw [← hok]; unfold a_two; rw [if_pos g])
  refine mj_enter in_69 (L := [.ref 1, .int p, .int k, .int v, .retAddr 0, .retAddr 0, .retAddr 0]) rfl ?_
  refine mj_b_iload_n (hE := fe_69_0) (hv := rfl) (k := ?_)
  refine mj_b_callR (hE := fe_69_1) (hi := in_14) (h1 := g14 _ _) (hc := mj_cok_s rfl) (ha := rfl) (hr := rfl) ?_
  refine mj_b_if1 (hE := fe_69_4) (kt := fun h4 => ?_) (kf := fun h4 => ?_)
  · simp only [mj_cnd, decide_eq_true_eq, decide_eq_false_iff_not, Bool.not_eq_true', Bool.not_eq_false', pz_0, Bool.not_eq_false, Bool.not_eq_true] at h4
    refine mj_b_iconst (hE := fe_69_29) (k := ?_)
    exact h30 false (by simp [h4])
  · simp only [mj_cnd, decide_eq_true_eq, decide_eq_false_iff_not, Bool.not_eq_true', Bool.not_eq_false', pz_0, Bool.not_eq_false, Bool.not_eq_true] at h4
    refine mj_b_iload_n (hE := fe_69_7) (hv := rfl) (k := ?_)
    refine mj_b_callR (hE := fe_69_8) (hi := in_70) (h1 := g70 _ _) (hc := mj_cok_s rfl) (ha := rfl) (hr := rfl) ?_
    refine mj_b_if1 (hE := fe_69_11) (kt := fun h11 => ?_) (kf := fun h11 => ?_)
    · simp only [mj_cnd, decide_eq_true_eq, decide_eq_false_iff_not, Bool.not_eq_true', Bool.not_eq_false', pz_0, Bool.not_eq_false, Bool.not_eq_true] at h11
      refine mj_b_iconst (hE := fe_69_29) (k := ?_)
      exact h30 false (by simp [h4, h11])
    · simp only [mj_cnd, decide_eq_true_eq, decide_eq_false_iff_not, Bool.not_eq_true', Bool.not_eq_false', pz_0, Bool.not_eq_false, Bool.not_eq_true] at h11
      refine mj_b_iload_n (hE := fe_69_14) (hv := rfl) (k := ?_)
      refine mj_b_iconst (hE := fe_69_15) (k := ?_)
      refine mj_b_sipush (hE := fe_69_16) (k := ?_)
      refine mj_b_callR (hE := fe_69_19) (hi := in_17) (h1 := g17 _ _ _ _) (hc := mj_cok_s rfl) (ha := rfl) (hr := rfl) ?_
      refine mj_b_if1 (hE := fe_69_22) (kt := fun h22 => ?_) (kf := fun h22 => ?_)
      · simp only [mj_cnd, decide_eq_true_eq, decide_eq_false_iff_not, Bool.not_eq_true', Bool.not_eq_false', pz_0, Bool.not_eq_false, Bool.not_eq_true] at h22
        refine mj_b_iconst (hE := fe_69_29) (k := ?_)
        exact h30 false (by simp [h4, h11, h22])
      · simp only [mj_cnd, decide_eq_true_eq, decide_eq_false_iff_not, Bool.not_eq_true', Bool.not_eq_false', pz_0, Bool.not_eq_false, Bool.not_eq_true] at h22
        refine mj_b_iconst (hE := fe_69_25) (k := ?_)
        refine mj_b_goto (hE := fe_69_26) (k := ?_)
        exact h30 true (by simp [h4, h11, h22])
theorem a_lckR_ok {rs : List ty_rw} {ls : List ty_lk} {sub : Int32 → Bool} {p : Int32} {xc dq : Bool} (h6 : ls.length ≤ 6) (h : a_lckR rs ls sub p xc dq = -1) : ls.length < 6 ∧ (ar_has rs p = false → rs.length < 13) := by
  unfold a_lckR at h
  split at h
  · exact absurd h (by decide)
  · split at h
    · exact absurd h (by decide)
    · split at h
      · exact absurd h (by decide)
      · rename_i h4
        simp only [not_or] at h4
        refine ⟨?_, fun hn => Nat.lt_of_not_le (fun h5 => h4.2 ⟨hn, h5⟩)⟩
        have := h4.1
        rw [show (6 : Int32) = nI 6 from rfl, nI_le_iff (by omega) (by omega)] at this
        omega
def o_lck (S : ty_st) (H : ty_hd) (f w : Int32) (ms : List Int32) (p : Int32) (xc dq : Bool) (t : Int32) : ty_oc :=
  o_ans S w ms (a_two (a_fstR S.1 S.2.1 H p (pf_path p && pf_from t 1 100)) (a_lckR S.1 S.2.1 (a_sub H.1) p xc dq)) (o_car S f w ms (x_lck S p xc dq t) (if ar_has S.1 p = true then 200 else 201))
set_option maxHeartbeats 2000000 in
/-- LockedTree.lock -/
theorem g72 (p : Int32) (xc dq : Bool) (t : Int32) (hw : wf_st n S) (h : c_all sn sx pn px S H f w ms I R) :
    mj_G pj_P 72 [.ref 1, .int p, .int (pz xc), .int (pz dq), .int t] (mz_SH L, I, R) (o_post L I R H (o_lck S H f w ms p xc dq t)) := by
  have h1 := sh_1 L
  have hsx : sx = 2 ∨ sx = 37 := by have := h.2.1; omega
  have hne : sx ≠ sn := by have := h.2.1; omega
  have t1 := h.1.1
  have t2 := h.1.2.1
  have hSx := sh_S L hsx
  have hSn := sh_S L h.2.2.1.1
  have hso : ar_sorted S.1 := hw.1.1
  have h45 : ∀ rr : Int32, rr = a_two (a_fstR S.1 S.2.1 H p (pf_path p && pf_from t 1 100)) (a_lckR S.1 S.2.1 (a_sub H.1) p xc dq) → mj_T pj_P 72 45 [.ref 1, .int p, .int (pz xc), .int (pz dq), .int t, .int rr, .retAddr 0] [] (mz_SH L, I, R) (o_post L I R H (o_lck S H f w ms p xc dq t)) := by
    intro rr hrr
    refine mj_b_iload (hE := fe_72_45) (hv := rfl) (k := ?_)
    refine mj_b_iconst (hE := fe_72_47) (k := ?_)
    refine mj_b_if2 (hE := fe_72_48) (kt := fun g => ?_) (kf := fun g => ?_)
    · simp only [mj_cnd, decide_eq_true_eq] at g
      rw [hrr] at g
      obtain ⟨g1, g2⟩ := a_two_ok g
      obtain ⟨hl6, hl13⟩ := a_lckR_ok hw.2.1.2.1 g2
      have hpo : o_lck S H f w ms p xc dq t = o_car S f w ms (x_lck S p xc dq t) (if ar_has S.1 p = true then 200 else 201) := by unfold o_lck o_ans; rw [if_pos g]
      rw [hpo]
      refine mj_b_rload_n (hE := fe_72_58) (hv := rfl) (k := ?_)
      refine mj_b_getQ (hE := fe_72_59) (hM := by assumption) (hv := by assumption) (k := ?_)
      refine mj_b_rload_n (hE := fe_72_62) (hv := rfl) (k := ?_)
      refine mj_b_getQ (hE := fe_72_63) (hM := by assumption) (hv := by assumption) (k := ?_)
      refine mj_b_call (hE := fe_72_66) (hi := in_39) (h1 := g39 hsx hne h.2.2.2.1 h.2.2.1) (hc := mj_cok_v rfl rfl hSx) (ha := rfl) (hr := rfl) ?_
      rintro v' M1 ⟨I1, hM, hx, f1⟩
      cases hM
      have hc1 := h.fr f1 fr_R.refl h.2.2.2.1
      refine (show mj_T pj_P 72 69 [.ref 1, .int p, .int (pz xc), .int (pz dq), .int t, .int rr, .retAddr 0] [] (mz_SH L, I1, R) _ from ?_)
      refine mj_b_rload_n (hE := fe_72_69) (hv := rfl) (k := ?_)
      refine mj_b_getQ (hE := fe_72_70) (hM := by assumption) (hv := by assumption) (k := ?_)
      refine mj_b_iload_n (hE := fe_72_73) (hv := rfl) (k := ?_)
      refine mj_b_iload_n (hE := fe_72_74) (hv := rfl) (k := ?_)
      refine mj_b_iload_n (hE := fe_72_75) (hv := rfl) (k := ?_)
      refine mj_b_iload (hE := fe_72_76) (hv := rfl) (k := ?_)
      refine mj_b_call (hE := fe_72_78) (hi := in_75) (h1 := g75 p t xc dq hx hl6) (hc := mj_cok_v rfl rfl hSx) (ha := rfl) (hr := rfl) ?_
      rintro v' M1 ⟨I2, hM, hx2, f2⟩
      cases hM
      have hc2 := hc1.fr f2 fr_R.refl h.2.2.2.1
      have fI2 : fr_C I I2 := (f1.C hsx).trans (f2.C hsx)
      refine (show mj_T pj_P 72 81 [.ref 1, .int p, .int (pz xc), .int (pz dq), .int t, .int rr, .retAddr 0] [] (mz_SH L, I2, R) _ from ?_)
      refine mj_b_rload_n (hE := fe_72_81) (hv := rfl) (k := ?_)
      refine mj_b_getQ (hE := fe_72_82) (hM := by assumption) (hv := by assumption) (k := ?_)
      refine mj_b_iload_n (hE := fe_72_85) (hv := rfl) (k := ?_)
      refine mj_b_callR (hE := fe_72_86) (hi := in_32) (h1 := g32' p hc2.2.2.1) (hc := mj_cok_v rfl rfl hSn) (ha := rfl) (hr := rfl) ?_
      refine mj_b_if1 (hE := fe_72_89) (kt := fun q => ?_) (kf := fun q => ?_)
      · simp only [mj_cnd, decide_eq_true_eq, pz_0] at q
        rw [q, if_neg (by decide)]
        refine mj_b_rload_n (hE := fe_72_100) (hv := rfl) (k := ?_)
        refine mj_b_getQ (hE := fe_72_101) (hM := by assumption) (hv := by assumption) (k := ?_)
        refine mj_b_iload_n (hE := fe_72_104) (hv := rfl) (k := ?_)
        refine mj_b_iconst (hE := fe_72_105) (k := ?_)
        refine mj_b_call (hE := fe_72_106) (hi := in_42) (h1 := g42m p 1 hx2 q (hl13 q) hso) (hc := mj_cok_v rfl rfl hSx) (ha := rfl) (hr := rfl) ?_
        rintro v' M1 ⟨px1, I3, R3, pre, suf, hsp, hsor, hM, hx3, f3, fR3⟩
        cases hM
        have hc3 := hc2.fr f3 fR3 hx3.2.1
        have t2' := hc3.1.2.1
        have hj13 : pre.length < 13 := by have := hl13 q; dsimp only at hsp; rw [hsp, List.length_append] at this; omega
        have hC : (mz_SH L)[cs_row sx px1 pre.length]? = some (2, 5) := sh_R L hsx (hx3.2.1.2.2.1 _ hj13).2
        have e5 := hx3.2.2.2.2.2.2.2.1
        refine (show mj_T pj_P 72 109 _ [va_rf (some (cs_row sx px1 pre.length))] _ _ from ?_)
        refine mj_b_astore (hE := fe_72_109) (hx := Nat.le_of_ble_eq_true rfl) (k := ?_)
        refine mj_b_aload (hE := fe_72_111) (hv := rfl) (k := ?_)
        refine mj_b_nul (hE := fe_72_113) (kn := fun m => ?_) (ks := fun ma m => ?_)
        · cases m
        · refine (show mj_T pj_P 72 116 [.ref 1, .int p, .int (pz xc), .int (pz dq), .int t, .int rr, .ref (cs_row sx px1 pre.length)] [] _ _ from ?_)
          refine mj_b_rload (hE := fe_72_116) (hv := rfl) (k := ?_)
          refine mj_b_rload_n (hE := fe_72_118) (hv := rfl) (k := ?_)
          refine mj_b_getQ (hE := fe_72_119) (hM := by assumption) (hv := by assumption) (k := ?_)
          refine mj_b_call (hE := fe_72_122) (hi := in_44) (h1 := g44 hsx) (hc := mj_cok_v rfl rfl hSx) (ha := rfl) (hr := rfl) ?_
          rintro v' M1 hM
          cases hM
          rw [e5]
          refine (show mj_T pj_P 72 125 _ [.int S.2.2.2.1, .ref (cs_row sx px1 pre.length)] _ _ from ?_)
          refine mj_b_putI (hE := fe_72_125) (hw := Or.inl rfl) (hM := hC) (k := ?_)
          refine mj_b_rload_n (hE := fe_72_128) (hv := rfl) (k := ?_)
          refine mj_b_sipush (hE := fe_72_129) (k := ?_)
          have hx4 := hx3.tst (j := pre.length) (r := (p, 1, 0, 0, 0, 0, 0)) (by simp)
          dsimp only at hx4 hsp
          rw [ins_set (y := (p, 1, 0, S.2.2.2.1, 0, 0, 0)) hsor rfl, ← hsp] at hx4
          have hfr : fr_I sx I3 (mj_u (mj_u I3 sx 5 (S.2.2.2.1 + 1)) (cs_row sx px1 pre.length) 3 S.2.2.2.1) := (fr_I.u (by omega) (by omega)).trans (fr_row hx3.2.1 hj13)
          have hxe : x_lck S p xc dq t = (ar_ins (p, 1, 0, S.2.2.2.1, 0, 0, 0) S.1, S.2.1 ++ [(S.2.2.2.2, p, S.2.2.1 + t, xc, dq)], S.2.2.1, S.2.2.2.1 + 1, S.2.2.2.2 + 1) := by unfold x_lck; rw [q]; rfl
          rw [hxe]
          exact q_carry fe_72_132 fe_72_135 in_72 (hc3.fr hfr fr_R.refl hx3.2.1) hx4 ((fI2.trans (f3.C hsx)).trans (hfr.C hsx)) (fR3.C hsx) 201
      · simp only [mj_cnd, decide_eq_false_iff_not, pz_0, Bool.not_eq_false] at q
        rw [q, if_pos rfl]
        refine mj_b_rload_n (hE := fe_72_92) (hv := rfl) (k := ?_)
        refine mj_b_sipush (hE := fe_72_93) (k := ?_)
        have hxe : x_lck S p xc dq t = (S.1, S.2.1 ++ [(S.2.2.2.2, p, S.2.2.1 + t, xc, dq)], S.2.2.1, S.2.2.2.1, S.2.2.2.2 + 1) := by unfold x_lck; rw [q]; rfl
        rw [hxe]
        exact q_carry fe_72_96 fe_72_99 in_72 hc2 hx2 fI2 fr_C.refl 200
    · simp only [mj_cnd, decide_eq_false_iff_not] at g
      have hpo : o_lck S H f w ms p xc dq t = o_ref S w ms rr := by unfold o_lck o_ans; rw [← hrr, if_neg g]
      rw [hpo]
      refine mj_b_rload_n (hE := fe_72_51) (hv := rfl) (k := ?_)
      refine mj_b_iload (hE := fe_72_52) (hv := rfl) (k := ?_)
      exact q_close fe_72_54 fe_72_57 in_72 h fr_C.refl fr_C.refl rr
  have h25 : ∀ ok : Bool, ok = (pf_path p && pf_from t 1 100) → mj_T pj_P 72 25 [.ref 1, .int p, .int (pz xc), .int (pz dq), .int t, .retAddr 0, .retAddr 0] [.int (pz ok), .int p, .ref 1] (mz_SH L, I, R) (o_post L I R H (o_lck S H f w ms p xc dq t)) := by
    intro ok hok
    refine mj_b_callR (hE := fe_72_25) (hi := in_19) (h1 := g19' h p ok) (hc := mj_cok_v rfl rfl h1) (ha := rfl) (hr := rfl) ?_
    refine mj_b_istore (hE := fe_72_28) (hx := Nat.le_of_ble_eq_true rfl) (k := ?_)
    refine mj_b_iload (hE := fe_72_30) (hv := rfl) (k := ?_)
    refine mj_b_iconst (hE := fe_72_32) (k := ?_)
    refine mj_b_if2 (hE := fe_72_33) (kt := fun g => ?_) (kf := fun g => ?_)
    · simp only [mj_cnd, Bool.not_eq_true', decide_eq_false_iff_not] at g
      exact h45 _ (by rw [← hok]; unfold a_two; rw [if_neg g])
    · simp only [mj_cnd, Bool.not_eq_false', decide_eq_true_eq] at g
      refine mj_b_rload_n (hE := fe_72_36) (hv := rfl) (k := ?_)
      refine mj_b_iload_n (hE := fe_72_37) (hv := rfl) (k := ?_)
      refine mj_b_iload_n (hE := fe_72_38) (hv := rfl) (k := ?_)
      refine mj_b_iload_n (hE := fe_72_39) (hv := rfl) (k := ?_)
      refine mj_b_callR (hE := fe_72_40) (hi := in_73) (h1 := g73' h p xc dq) (hc := mj_cok_v rfl rfl h1) (ha := rfl) (hr := rfl) ?_
      refine mj_b_istore (hE := fe_72_43) (hx := Nat.le_of_ble_eq_true rfl) (k := ?_)
      exact h45 _ (by rw [← hok]; unfold a_two; rw [if_pos g])
  refine mj_enter in_72 (L := [.ref 1, .int p, .int (pz xc), .int (pz dq), .int t, .retAddr 0, .retAddr 0]) rfl ?_
  refine mj_b_rload_n (hE := fe_72_0) (hv := rfl) (k := ?_)
  refine mj_b_iload_n (hE := fe_72_1) (hv := rfl) (k := ?_)
  refine mj_b_iload_n (hE := fe_72_2) (hv := rfl) (k := ?_)
  refine mj_b_callR (hE := fe_72_3) (hi := in_14) (h1 := g14 _ _) (hc := mj_cok_s rfl) (ha := rfl) (hr := rfl) ?_
  refine mj_b_if1 (hE := fe_72_6) (kt := fun h6 => ?_) (kf := fun h6 => ?_)
  · simp only [mj_cnd, decide_eq_true_eq, decide_eq_false_iff_not, Bool.not_eq_true', Bool.not_eq_false', pz_0, Bool.not_eq_false, Bool.not_eq_true] at h6
    refine mj_b_iconst (hE := fe_72_24) (k := ?_)
    exact h25 false (by simp [h6])
  · simp only [mj_cnd, decide_eq_true_eq, decide_eq_false_iff_not, Bool.not_eq_true', Bool.not_eq_false', pz_0, Bool.not_eq_false, Bool.not_eq_true] at h6
    refine mj_b_iload (hE := fe_72_9) (hv := rfl) (k := ?_)
    refine mj_b_iconst (hE := fe_72_11) (k := ?_)
    refine mj_b_bipush (hE := fe_72_12) (k := ?_)
    refine mj_b_callR (hE := fe_72_14) (hi := in_17) (h1 := g17 _ _ _ _) (hc := mj_cok_s rfl) (ha := rfl) (hr := rfl) ?_
    refine mj_b_if1 (hE := fe_72_17) (kt := fun h17 => ?_) (kf := fun h17 => ?_)
    · simp only [mj_cnd, decide_eq_true_eq, decide_eq_false_iff_not, Bool.not_eq_true', Bool.not_eq_false', pz_0, Bool.not_eq_false, Bool.not_eq_true] at h17
      refine mj_b_iconst (hE := fe_72_24) (k := ?_)
      exact h25 false (by simp [h6, h17])
    · simp only [mj_cnd, decide_eq_true_eq, decide_eq_false_iff_not, Bool.not_eq_true', Bool.not_eq_false', pz_0, Bool.not_eq_false, Bool.not_eq_true] at h17
      refine mj_b_iconst (hE := fe_72_20) (k := ?_)
      refine mj_b_goto (hE := fe_72_21) (k := ?_)
      exact h25 true (by simp [h6, h17])
end RD
