/-! ===== the class: mkcol, tick, refresh, unlock ===== -/
section RC
variable {L sn sx n : Nat} {pn px : Nat → Nat} {S : ty_st} {H : ty_hd} {f w : Int32} {ms : List Int32} {I : Nat → Nat → Int32} {R : Nat → Nat → Option Nat}
theorem a_mkR_ok {rs : List ty_rw} {ls : List ty_lk} {sub : Int32 → Bool} {p : Int32} (h : a_mkR rs ls sub p = -1) : ar_has rs p = false ∧ rs.length < 13 := by
  unfold a_mkR at h
  split at h
  · exact absurd h (by decide)
  · rename_i h1
    split at h
    · exact absurd h (by decide)
    · split at h
      · exact absurd h (by decide)
      · split at h
        · exact absurd h (by decide)
        · rename_i h4
          exact ⟨by simpa using h1, by omega⟩
def o_mk (S : ty_st) (H : ty_hd) (f w : Int32) (ms : List Int32) (p : Int32) : ty_oc :=
  o_ans S w ms (a_two (a_fstR S.1 S.2.1 H p (pf_path p)) (a_mkR S.1 S.2.1 (a_sub H.1) p)) (o_car S f w ms (x_mk S p) 201)
set_option maxHeartbeats 2000000 in
/-- LockedTree.mkcol -/
theorem g50 (p : Int32) (hw : wf_st n S) (h : c_all sn sx pn px S H f w ms I R) :
    mj_G pj_P 50 [.ref 1, .int p] (mz_SH L, I, R) (o_post L I R H (o_mk S H f w ms p)) := by
  have h1 := sh_1 L
  have hsx : sx = 2 ∨ sx = 37 := by have := h.2.1; omega
  have hne : sx ≠ sn := by have := h.2.1; omega
  have t1 := h.1.1
  have t2 := h.1.2.1
  have hSx := sh_S L hsx
  have hso : ar_sorted S.1 := hw.1.1
  have h21 : ∀ rr : Int32, rr = a_two (a_fstR S.1 S.2.1 H p (pf_path p)) (a_mkR S.1 S.2.1 (a_sub H.1) p) → mj_T pj_P 50 21 [.ref 1, .int p, .int rr, .retAddr 0] [] (mz_SH L, I, R) (o_post L I R H (o_mk S H f w ms p)) := by
    intro rr hrr
    refine mj_b_iload_n (hE := fe_50_21) (hv := rfl) (k := ?_)
    refine mj_b_iconst (hE := fe_50_22) (k := ?_)
    refine mj_b_if2 (hE := fe_50_23) (kt := fun g => ?_) (kf := fun g => ?_)
    · simp only [mj_cnd, decide_eq_true_eq] at g
      rw [hrr] at g
      obtain ⟨g1, g2⟩ := a_two_ok g
      obtain ⟨hh, hlt⟩ := a_mkR_ok g2
      have hpo : o_mk S H f w ms p = o_car S f w ms (x_mk S p) 201 := by unfold o_mk o_ans; rw [if_pos g]
      rw [hpo]
      refine mj_b_rload_n (hE := fe_50_32) (hv := rfl) (k := ?_)
      refine mj_b_getQ (hE := fe_50_33) (hM := by assumption) (hv := by assumption) (k := ?_)
      refine mj_b_rload_n (hE := fe_50_36) (hv := rfl) (k := ?_)
      refine mj_b_getQ (hE := fe_50_37) (hM := by assumption) (hv := by assumption) (k := ?_)
      refine mj_b_call (hE := fe_50_40) (hi := in_39) (h1 := g39 hsx hne h.2.2.2.1 h.2.2.1) (hc := mj_cok_v rfl rfl hSx) (ha := rfl) (hr := rfl) ?_
      rintro v M1 ⟨I1, hM, hx, f1⟩
      cases hM
      have hc1 := h.fr f1 fr_R.refl h.2.2.2.1
      refine (show mj_T pj_P 50 43 [.ref 1, .int p, .int rr, .retAddr 0] [] (mz_SH L, I1, R) _ from ?_)
      refine mj_b_rload_n (hE := fe_50_43) (hv := rfl) (k := ?_)
      refine mj_b_getQ (hE := fe_50_44) (hM := by assumption) (hv := by assumption) (k := ?_)
      refine mj_b_iload_n (hE := fe_50_47) (hv := rfl) (k := ?_)
      refine mj_b_iconst (hE := fe_50_48) (k := ?_)
      refine mj_b_call (hE := fe_50_49) (hi := in_42) (h1 := g42m p 2 hx hh hlt hso) (hc := mj_cok_v rfl rfl hSx) (ha := rfl) (hr := rfl) ?_
      rintro v M1 ⟨px1, I2, R2, pre, suf, hsp, hsor, hM, hx2, f2, fR2⟩
      cases hM
      have hc2 := hc1.fr f2 fR2 hx2.2.1
      have t2' := hc2.1.2.1
      have hj13 : pre.length < 13 := by rw [hsp, List.length_append] at hlt; omega
      have hC : (mz_SH L)[cs_row sx px1 pre.length]? = some (2, 5) := sh_R L hsx (hx2.2.1.2.2.1 _ hj13).2
      have e5 := hx2.2.2.2.2.2.2.2.1
      refine (show mj_T pj_P 50 52 _ [va_rf (some (cs_row sx px1 pre.length))] _ _ from ?_)
      refine mj_b_astore_n (hE := fe_50_52) (hx := Nat.le_of_ble_eq_true rfl) (k := ?_)
      refine mj_b_aload_n (hE := fe_50_53) (hv := rfl) (k := ?_)
      refine mj_b_nul (hE := fe_50_54) (kn := fun q => ?_) (ks := fun qa q => ?_)
      · cases q
      · refine (show mj_T pj_P 50 57 [.ref 1, .int p, .int rr, .ref (cs_row sx px1 pre.length)] [] _ _ from ?_)
        refine mj_b_rload_n (hE := fe_50_57) (hv := rfl) (k := ?_)
        refine mj_b_rload_n (hE := fe_50_58) (hv := rfl) (k := ?_)
        refine mj_b_getQ (hE := fe_50_59) (hM := by assumption) (hv := by assumption) (k := ?_)
        refine mj_b_call (hE := fe_50_62) (hi := in_44) (h1 := g44 hsx) (hc := mj_cok_v rfl rfl hSx) (ha := rfl) (hr := rfl) ?_
        rintro v M1 hM
        cases hM
        rw [e5]
        refine (show mj_T pj_P 50 65 _ [.int S.2.2.2.1, .ref (cs_row sx px1 pre.length)] _ _ from ?_)
        refine mj_b_putI (hE := fe_50_65) (hw := Or.inl rfl) (hM := hC) (k := ?_)
        refine mj_b_rload_n (hE := fe_50_68) (hv := rfl) (k := ?_)
        refine mj_b_sipush (hE := fe_50_69) (k := ?_)
        have hx3 := hx2.tst (j := pre.length) (r := (p, 2, 0, 0, 0, 0, 0)) (by simp)
        dsimp only at hx3
        rw [ins_set (y := (p, 2, 0, S.2.2.2.1, 0, 0, 0)) hsor rfl, ← hsp] at hx3
        have hfr : fr_I sx I2 (mj_u (mj_u I2 sx 5 (S.2.2.2.1 + 1)) (cs_row sx px1 pre.length) 3 S.2.2.2.1) := (fr_I.u (by omega) (by omega)).trans (fr_row hx2.2.1 hj13)
        exact q_carry fe_50_72 fe_50_75 in_50 (hc2.fr hfr fr_R.refl hx2.2.1) hx3 (((f1.C hsx).trans (f2.C hsx)).trans (hfr.C hsx)) (fR2.C hsx) 201
    · simp only [mj_cnd, decide_eq_false_iff_not] at g
      have hpo : o_mk S H f w ms p = o_ref S w ms rr := by unfold o_mk o_ans; rw [← hrr, if_neg g]
      rw [hpo]
      refine mj_b_rload_n (hE := fe_50_26) (hv := rfl) (k := ?_)
      refine mj_b_iload_n (hE := fe_50_27) (hv := rfl) (k := ?_)
      exact q_close fe_50_28 fe_50_31 in_50 h fr_C.refl fr_C.refl rr
  refine mj_enter in_50 (L := [.ref 1, .int p, .retAddr 0, .retAddr 0]) rfl ?_
  refine mj_b_rload_n (hE := fe_50_0) (hv := rfl) (k := ?_)
  refine mj_b_iload_n (hE := fe_50_1) (hv := rfl) (k := ?_)
  refine mj_b_iload_n (hE := fe_50_2) (hv := rfl) (k := ?_)
  refine mj_b_callR (hE := fe_50_3) (hi := in_14) (h1 := g14 _ _) (hc := mj_cok_s rfl) (ha := rfl) (hr := rfl) ?_
  refine mj_b_callR (hE := fe_50_6) (hi := in_19) (h1 := g19' h p (pf_path p)) (hc := mj_cok_v rfl rfl h1) (ha := rfl) (hr := rfl) ?_
  refine mj_b_istore_n (hE := fe_50_9) (hx := Nat.le_of_ble_eq_true rfl) (k := ?_)
  refine mj_b_iload_n (hE := fe_50_10) (hv := rfl) (k := ?_)
  refine mj_b_iconst (hE := fe_50_11) (k := ?_)
  refine mj_b_if2 (hE := fe_50_12) (kt := fun g => ?_) (kf := fun g => ?_)
  · simp only [mj_cnd, Bool.not_eq_true', decide_eq_false_iff_not] at g
    exact h21 _ (by unfold a_two; rw [if_neg g])
  · simp only [mj_cnd, Bool.not_eq_false', decide_eq_true_eq] at g
    refine mj_b_rload_n (hE := fe_50_15) (hv := rfl) (k := ?_)
    refine mj_b_iload_n (hE := fe_50_16) (hv := rfl) (k := ?_)
    refine mj_b_callR (hE := fe_50_17) (hi := in_51) (h1 := g51' h p) (hc := mj_cok_v rfl rfl h1) (ha := rfl) (hr := rfl) ?_
    refine mj_b_istore_n (hE := fe_50_20) (hx := Nat.le_of_ble_eq_true rfl) (k := ?_)
    exact h21 _ (by unfold a_two; rw [if_pos g])
theorem cs_rep.clk {b : Nat} {pi : Nat → Nat} (h : cs_rep b pi S I R) (v : Int32) : cs_rep b pi (S.1, S.2.1, v, S.2.2.2) (mj_u I b 4 v) R := by
  obtain ⟨k1, k2, k3⟩ := h.2.2.2.2.2.2
  exact h.num (fun x k hx => mj_u_na _ _ _ _ hx) (by simp [mj_u]) (by simp [mj_u]) (by simp [mj_u]) (by simp [mj_u, k2]) (by simp [mj_u, k3])
def o_tik (S : ty_st) (H : ty_hd) (f w : Int32) (ms : List Int32) (k : Int32) : ty_oc :=
  o_ans S w ms (a_fstR S.1 S.2.1 H 0 (pf_from k 0 1000)) (o_car S f w ms (x_tik S k) 200)
set_option maxHeartbeats 2000000 in
/-- LockedTree.tick -/
theorem g78 (k : Int32) (h : c_all sn sx pn px S H f w ms I R) :
    mj_G pj_P 78 [.ref 1, .int k] (mz_SH L, I, R) (o_post L I R H (o_tik S H f w ms k)) := by
  have h1 := sh_1 L
  have hsx : sx = 2 ∨ sx = 37 := by have := h.2.1; omega
  have hne : sx ≠ sn := by have := h.2.1; omega
  have t1 := h.1.1
  have t2 := h.1.2.1
  have hSx := sh_S L hsx
  refine mj_enter in_78 (L := [.ref 1, .int k, .retAddr 0]) rfl ?_
  refine mj_b_rload_n (hE := fe_78_0) (hv := rfl) (k := ?_)
  refine mj_b_iconst (hE := fe_78_1) (k := ?_)
  refine mj_b_iload_n (hE := fe_78_2) (hv := rfl) (k := ?_)
  refine mj_b_iconst (hE := fe_78_3) (k := ?_)
  refine mj_b_sipush (hE := fe_78_4) (k := ?_)
  refine mj_b_callR (hE := fe_78_7) (hi := in_17) (h1 := g17 _ _ _ _) (hc := mj_cok_s rfl) (ha := rfl) (hr := rfl) ?_
  refine mj_b_callR (hE := fe_78_10) (hi := in_19) (h1 := g19' h 0 (pf_from k 0 1000)) (hc := mj_cok_v rfl rfl h1) (ha := rfl) (hr := rfl) ?_
  refine mj_b_istore_n (hE := fe_78_13) (hx := Nat.le_of_ble_eq_true rfl) (k := ?_)
  refine mj_b_iload_n (hE := fe_78_14) (hv := rfl) (k := ?_)
  refine mj_b_iconst (hE := fe_78_15) (k := ?_)
  refine mj_b_if2 (hE := fe_78_16) (kt := fun g => ?_) (kf := fun g => ?_)
  · simp only [mj_cnd, decide_eq_true_eq] at g
    have hpo : o_tik S H f w ms k = o_car S f w ms (x_tik S k) 200 := by unfold o_tik o_ans; rw [if_pos g]
    rw [hpo]
    refine mj_b_rload_n (hE := fe_78_25) (hv := rfl) (k := ?_)
    refine mj_b_getQ (hE := fe_78_26) (hM := by assumption) (hv := by assumption) (k := ?_)
    refine mj_b_rload_n (hE := fe_78_29) (hv := rfl) (k := ?_)
    refine mj_b_getQ (hE := fe_78_30) (hM := by assumption) (hv := by assumption) (k := ?_)
    refine mj_b_call (hE := fe_78_33) (hi := in_39) (h1 := g39 hsx hne h.2.2.2.1 h.2.2.1) (hc := mj_cok_v rfl rfl hSx) (ha := rfl) (hr := rfl) ?_
    rintro v M1 ⟨I1, hM, hx, f1⟩
    cases hM
    have hc1 := h.fr f1 fr_R.refl h.2.2.2.1
    have e4 := hx.2.2.2.2.2.2.1
    refine (show mj_T pj_P 78 36 [.ref 1, .int k, .int _] [] (mz_SH L, I1, R) _ from ?_)
    refine mj_b_rload_n (hE := fe_78_36) (hv := rfl) (k := ?_)
    refine mj_b_getQ (hE := fe_78_37) (hM := by assumption) (hv := by assumption) (k := ?_)
    refine mj_b_dup (hE := fe_78_40) (hv := rfl) (k := ?_)
    refine mj_b_getV (hE := fe_78_41) (hM := by assumption) (hv := by assumption) (k := ?_)
    refine mj_b_iload_n (hE := fe_78_44) (hv := rfl) (k := ?_)
    refine mj_b_iadd (hE := fe_78_45) (k := ?_)
    refine mj_b_putI (hE := fe_78_46) (hw := Or.inl rfl) (hM := by assumption) (k := ?_)
    refine mj_b_rload_n (hE := fe_78_49) (hv := rfl) (k := ?_)
    refine mj_b_sipush (hE := fe_78_50) (k := ?_)
    have hfr : fr_I sx I1 (mj_u I1 sx 4 (S.2.2.1 + k)) := fr_I.u (by omega) (by omega)
    exact q_carry fe_78_53 fe_78_56 in_78 (hc1.fr hfr fr_R.refl h.2.2.2.1) (hx.clk (S.2.2.1 + k)) ((f1.C hsx).trans (hfr.C hsx)) fr_C.refl 200
  · simp only [mj_cnd, decide_eq_false_iff_not] at g
    have hpo : o_tik S H f w ms k = o_ref S w ms (a_fstR S.1 S.2.1 H 0 (pf_from k 0 1000)) := by unfold o_tik o_ans; rw [if_neg g]
    rw [hpo]
    refine mj_b_rload_n (hE := fe_78_19) (hv := rfl) (k := ?_)
    refine mj_b_iload_n (hE := fe_78_20) (hv := rfl) (k := ?_)
    exact q_close fe_78_21 fe_78_24 in_78 h fr_C.refl fr_C.refl _
theorem lk_at_end {a : Nat} {l : ty_lk} (e : Int32) (h : lk_at I a l) : lk_at (mj_u I a 2 e) a (lk_end e l) := by
  obtain ⟨h0, h1, h2, h3, h4⟩ := h
  exact ⟨by simp [mj_u, h0, lk_end], by simp [mj_u, h1, lk_end], by simp [mj_u, lk_end], by simp [mj_u, h3, lk_end], by simp [mj_u, h4, lk_end]⟩
theorem cs_rep.lend {b j : Nat} {l : ty_lk} {pi : Nat → Nat} (h : cs_rep b pi S I R) (hj : S.2.1[j]? = some l) (e : Int32) : cs_rep b pi (x_end S j e) (mj_u I (b + 29 + j) 2 e) R := by
  have hl := (List.getElem?_eq_some_iff.mp hj).1
  have := h.setL (l' := lk_end e l) (I' := mj_u I (b + 29 + j) 2 e) hl (lk_at_end e (h.2.2.2.2.2.1 j l hj)) (fun x k hx => mj_u_na _ _ _ _ hx)
  unfold x_end al_set
  rw [hj]
  exact this
def o_rfr (S : ty_st) (H : ty_hd) (f w : Int32) (ms : List Int32) (p t : Int32) : ty_oc :=
  o_ans S w ms (a_fstR S.1 S.2.1 H p (pf_path p && pf_from t 1 100)) (match al_fs S.2.1 (a_sub H.1) p with
    | none => o_ref S w ms 412
    | some j => o_car S f w ms (x_end S j (S.2.2.1 + t)) 200)
set_option maxHeartbeats 2000000 in
/-- LockedTree.refresh -/
theorem g76 (p t : Int32) (h : c_all sn sx pn px S H f w ms I R) :
    mj_G pj_P 76 [.ref 1, .int p, .int t] (mz_SH L, I, R) (o_post L I R H (o_rfr S H f w ms p t)) := by
  have h1 := sh_1 L
  have hsx : sx = 2 ∨ sx = 37 := by have := h.2.1; omega
  have hne : sx ≠ sn := by have := h.2.1; omega
  have t1 := h.1.1
  have t2 := h.1.2.1
  have hSx := sh_S L hsx
  have h24 : ∀ ok : Bool, ok = (pf_path p && pf_from t 1 100) → mj_T pj_P 76 24 [.ref 1, .int p, .int t, .retAddr 0, .retAddr 0] [.int (pz ok), .int p, .ref 1] (mz_SH L, I, R) (o_post L I R H (o_rfr S H f w ms p t)) := by
    intro ok hok
    refine mj_b_callR (hE := fe_76_24) (hi := in_19) (h1 := g19' h p ok) (hc := mj_cok_v rfl rfl h1) (ha := rfl) (hr := rfl) ?_
    rw [hok]
    refine mj_b_istore_n (hE := fe_76_27) (hx := Nat.le_of_ble_eq_true rfl) (k := ?_)
    refine mj_b_iload_n (hE := fe_76_28) (hv := rfl) (k := ?_)
    refine mj_b_iconst (hE := fe_76_29) (k := ?_)
    refine mj_b_if2 (hE := fe_76_30) (kt := fun g => ?_) (kf := fun g => ?_)
    · simp only [mj_cnd, decide_eq_true_eq] at g
      have hpo : o_rfr S H f w ms p t = (match al_fs S.2.1 (a_sub H.1) p with
        | none => o_ref S w ms 412
        | some j => o_car S f w ms (x_end S j (S.2.2.1 + t)) 200) := by unfold o_rfr o_ans; rw [if_pos g]
      rw [hpo]
      refine mj_b_rload_n (hE := fe_76_39) (hv := rfl) (k := ?_)
      refine mj_b_getQ (hE := fe_76_40) (hM := by assumption) (hv := by assumption) (k := ?_)
      refine mj_b_rload_n (hE := fe_76_43) (hv := rfl) (k := ?_)
      refine mj_b_getQ (hE := fe_76_44) (hM := by assumption) (hv := by assumption) (k := ?_)
      refine mj_b_call (hE := fe_76_47) (hi := in_39) (h1 := g39 hsx hne h.2.2.2.1 h.2.2.1) (hc := mj_cok_v rfl rfl hSx) (ha := rfl) (hr := rfl) ?_
      rintro v M1 ⟨I1, hM, hx, f1⟩
      cases hM
      have hc1 := h.fr f1 fr_R.refl h.2.2.2.1
      have e4 := hx.2.2.2.2.2.2.1
      refine (show mj_T pj_P 76 50 [.ref 1, .int p, .int t, .int _, .retAddr 0] [] (mz_SH L, I1, R) _ from ?_)
      refine mj_b_rload_n (hE := fe_76_50) (hv := rfl) (k := ?_)
      refine mj_b_rload_n (hE := fe_76_51) (hv := rfl) (k := ?_)
      refine mj_b_getQ (hE := fe_76_52) (hM := by assumption) (hv := by assumption) (k := ?_)
      refine mj_b_iload_n (hE := fe_76_55) (hv := rfl) (k := ?_)
      refine mj_b_callR (hE := fe_76_56) (hi := in_34) (h1 := g34' p hx hc1.2.2.2.2.1 hc1.1) (hc := mj_cok_v rfl rfl h1) (ha := rfl) (hr := rfl) ?_
      cases hf : al_fs S.2.1 (a_sub H.1) p with
      | none =>
        unfold al_fs at hf
        rw [hf]
        refine (show mj_T pj_P 76 59 _ [va_rf none] _ _ from ?_)
        refine mj_b_astore (hE := fe_76_59) (hx := Nat.le_of_ble_eq_true rfl) (k := ?_)
        refine mj_b_aload (hE := fe_76_61) (hv := rfl) (k := ?_)
        refine mj_b_nnul (hE := fe_76_63) (kn := fun q => ?_) (ks := fun qa q => ?_)
        · refine mj_b_rload_n (hE := fe_76_66) (hv := rfl) (k := ?_)
          refine mj_b_sipush (hE := fe_76_67) (k := ?_)
          exact q_close fe_76_70 fe_76_73 in_76 hc1 (f1.C hsx) fr_C.refl 412
        · cases q
      | some j =>
        unfold al_fs at hf
        rw [hf]
        have hjl := (List.findIdx?_eq_some_iff_getElem.mp hf).1
        have hj6 : j < 6 := by have := hx.2.2.2.1.2; omega
        have hC := sh_L L hsx hj6
        refine (show mj_T pj_P 76 59 _ [va_rf (some (sx + 29 + j))] _ _ from ?_)
        refine mj_b_astore (hE := fe_76_59) (hx := Nat.le_of_ble_eq_true rfl) (k := ?_)
        refine mj_b_aload (hE := fe_76_61) (hv := rfl) (k := ?_)
        refine mj_b_nnul (hE := fe_76_63) (kn := fun q => ?_) (ks := fun qa q => ?_)
        · cases q
        · refine (show mj_T pj_P 76 74 [.ref 1, .int p, .int t, .int _, .ref (sx + 29 + j)] [] _ _ from ?_)
          refine mj_b_rload (hE := fe_76_74) (hv := rfl) (k := ?_)
          refine mj_b_rload_n (hE := fe_76_76) (hv := rfl) (k := ?_)
          refine mj_b_getQ (hE := fe_76_77) (hM := by assumption) (hv := by assumption) (k := ?_)
          refine mj_b_getV (hE := fe_76_80) (hM := by assumption) (hv := by assumption) (k := ?_)
          refine mj_b_iload_n (hE := fe_76_83) (hv := rfl) (k := ?_)
          refine mj_b_iadd (hE := fe_76_84) (k := ?_)
          refine mj_b_putI (hE := fe_76_85) (hw := Or.inl rfl) (hM := hC) (k := ?_)
          refine mj_b_rload_n (hE := fe_76_88) (hv := rfl) (k := ?_)
          refine mj_b_sipush (hE := fe_76_89) (k := ?_)
          have hfr : fr_I sx I1 (mj_u I1 (sx + 29 + j) 2 (S.2.2.1 + t)) := fr_I.u (by omega) (by omega)
          exact q_carry fe_76_92 fe_76_95 in_76 (hc1.fr hfr fr_R.refl h.2.2.2.1) (hx.lend (List.getElem?_eq_getElem hjl) (S.2.2.1 + t)) ((f1.C hsx).trans (hfr.C hsx)) fr_C.refl 200
    · simp only [mj_cnd, decide_eq_false_iff_not] at g
      have hpo : o_rfr S H f w ms p t = o_ref S w ms (a_fstR S.1 S.2.1 H p (pf_path p && pf_from t 1 100)) := by unfold o_rfr o_ans; rw [if_neg g]
      rw [hpo]
      refine mj_b_rload_n (hE := fe_76_33) (hv := rfl) (k := ?_)
      refine mj_b_iload_n (hE := fe_76_34) (hv := rfl) (k := ?_)
      exact q_close fe_76_35 fe_76_38 in_76 h fr_C.refl fr_C.refl _
  refine mj_enter in_76 (L := [.ref 1, .int p, .int t, .retAddr 0, .retAddr 0]) rfl ?_
  refine mj_b_rload_n (hE := fe_76_0) (hv := rfl) (k := ?_)
  refine mj_b_iload_n (hE := fe_76_1) (hv := rfl) (k := ?_)
  refine mj_b_iload_n (hE := fe_76_2) (hv := rfl) (k := ?_)
  refine mj_b_callR (hE := fe_76_3) (hi := in_14) (h1 := g14 _ _) (hc := mj_cok_s rfl) (ha := rfl) (hr := rfl) ?_
  refine mj_b_if1 (hE := fe_76_6) (kt := fun h6 => ?_) (kf := fun h6 => ?_)
  · simp only [mj_cnd, decide_eq_true_eq, decide_eq_false_iff_not, Bool.not_eq_true', Bool.not_eq_false', pz_0, Bool.not_eq_false, Bool.not_eq_true] at h6
    refine mj_b_iconst (hE := fe_76_23) (k := ?_)
    exact h24 false (by simp [h6])
  · simp only [mj_cnd, decide_eq_true_eq, decide_eq_false_iff_not, Bool.not_eq_true', Bool.not_eq_false', pz_0, Bool.not_eq_false, Bool.not_eq_true] at h6
    refine mj_b_iload_n (hE := fe_76_9) (hv := rfl) (k := ?_)
    refine mj_b_iconst (hE := fe_76_10) (k := ?_)
    refine mj_b_bipush (hE := fe_76_11) (k := ?_)
    refine mj_b_callR (hE := fe_76_13) (hi := in_17) (h1 := g17 _ _ _ _) (hc := mj_cok_s rfl) (ha := rfl) (hr := rfl) ?_
    refine mj_b_if1 (hE := fe_76_16) (kt := fun h16 => ?_) (kf := fun h16 => ?_)
    · simp only [mj_cnd, decide_eq_true_eq, decide_eq_false_iff_not, Bool.not_eq_true', Bool.not_eq_false', pz_0, Bool.not_eq_false, Bool.not_eq_true] at h16
      refine mj_b_iconst (hE := fe_76_23) (k := ?_)
      exact h24 false (by simp [h6, h16])
    · simp only [mj_cnd, decide_eq_true_eq, decide_eq_false_iff_not, Bool.not_eq_true', Bool.not_eq_false', pz_0, Bool.not_eq_false, Bool.not_eq_true] at h16
      refine mj_b_iconst (hE := fe_76_19) (k := ?_)
      refine mj_b_goto (hE := fe_76_20) (k := ?_)
      exact h24 true (by simp [h6, h16])
def al_tk (ls : List ty_lk) (t p : Int32) : Option Nat := match al_fi ls t with
  | none => none
  | some j => match ls[j]? with
    | none => none
    | some l => if a_cov p l = true then some j else none
def o_unl (S : ty_st) (H : ty_hd) (f w : Int32) (ms : List Int32) (p t : Int32) : ty_oc :=
  o_ans S w ms (a_fstR S.1 S.2.1 H p (pf_path p)) (match al_tk S.2.1 t p with
    | none => o_ref S w ms 409
    | some j => o_car S f w ms (x_end S j S.2.2.1) 204)
set_option maxHeartbeats 2000000 in
/-- LockedTree.unlock -/
theorem g77 (p t : Int32) (h : c_all sn sx pn px S H f w ms I R) :
    mj_G pj_P 77 [.ref 1, .int p, .int t] (mz_SH L, I, R) (o_post L I R H (o_unl S H f w ms p t)) := by
  have h1 := sh_1 L
  have hsx : sx = 2 ∨ sx = 37 := by have := h.2.1; omega
  have hne : sx ≠ sn := by have := h.2.1; omega
  have t1 := h.1.1
  have t2 := h.1.2.1
  have hSx := sh_S L hsx
  refine mj_enter in_77 (L := [.ref 1, .int p, .int t, .retAddr 0, .retAddr 0]) rfl ?_
  refine mj_b_rload_n (hE := fe_77_0) (hv := rfl) (k := ?_)
  refine mj_b_iload_n (hE := fe_77_1) (hv := rfl) (k := ?_)
  refine mj_b_iload_n (hE := fe_77_2) (hv := rfl) (k := ?_)
  refine mj_b_callR (hE := fe_77_3) (hi := in_14) (h1 := g14 _ _) (hc := mj_cok_s rfl) (ha := rfl) (hr := rfl) ?_
  refine mj_b_callR (hE := fe_77_6) (hi := in_19) (h1 := g19' h p (pf_path p)) (hc := mj_cok_v rfl rfl h1) (ha := rfl) (hr := rfl) ?_
  refine mj_b_istore_n (hE := fe_77_9) (hx := Nat.le_of_ble_eq_true rfl) (k := ?_)
  refine mj_b_iload_n (hE := fe_77_10) (hv := rfl) (k := ?_)
  refine mj_b_iconst (hE := fe_77_11) (k := ?_)
  refine mj_b_if2 (hE := fe_77_12) (kt := fun g => ?_) (kf := fun g => ?_)
  · simp only [mj_cnd, decide_eq_true_eq] at g
    have hpo : o_unl S H f w ms p t = (match al_tk S.2.1 t p with
      | none => o_ref S w ms 409
      | some j => o_car S f w ms (x_end S j S.2.2.1) 204) := by unfold o_unl o_ans; rw [if_pos g]
    rw [hpo]
    refine mj_b_rload_n (hE := fe_77_21) (hv := rfl) (k := ?_)
    refine mj_b_getQ (hE := fe_77_22) (hM := by assumption) (hv := by assumption) (k := ?_)
    refine mj_b_rload_n (hE := fe_77_25) (hv := rfl) (k := ?_)
    refine mj_b_getQ (hE := fe_77_26) (hM := by assumption) (hv := by assumption) (k := ?_)
    refine mj_b_call (hE := fe_77_29) (hi := in_39) (h1 := g39 hsx hne h.2.2.2.1 h.2.2.1) (hc := mj_cok_v rfl rfl hSx) (ha := rfl) (hr := rfl) ?_
    rintro v M1 ⟨I1, hM, hx, f1⟩
    cases hM
    have hc1 := h.fr f1 fr_R.refl h.2.2.2.1
    have e4 := hx.2.2.2.2.2.2.1
    have no : ∀ v3 v4, mj_T pj_P 77 56 [.ref 1, .int p, .int t, v3, v4] [] (mz_SH L, I1, R) (o_post L I R H (o_ref S w ms 409)) := by
      intro v3 v4
      refine mj_b_rload_n (hE := fe_77_56) (hv := rfl) (k := ?_)
      refine mj_b_sipush (hE := fe_77_57) (k := ?_)
      exact q_close fe_77_60 fe_77_63 in_77 hc1 (f1.C hsx) fr_C.refl 409
    refine (show mj_T pj_P 77 32 [.ref 1, .int p, .int t, .int _, .retAddr 0] [] (mz_SH L, I1, R) _ from ?_)
    refine mj_b_rload_n (hE := fe_77_32) (hv := rfl) (k := ?_)
    refine mj_b_getQ (hE := fe_77_33) (hM := by assumption) (hv := by assumption) (k := ?_)
    refine mj_b_iload_n (hE := fe_77_36) (hv := rfl) (k := ?_)
    refine mj_b_callR (hE := fe_77_37) (hi := in_24) (h1 := g24' t hx) (hc := mj_cok_v rfl rfl hSx) (ha := rfl) (hr := rfl) ?_
    cases hf : al_fi S.2.1 t with
    | none =>
      have e : al_tk S.2.1 t p = none := by unfold al_tk; rw [hf]
      rw [e]
      refine (show mj_T pj_P 77 40 _ [va_rf none] _ _ from ?_)
      refine mj_b_astore (hE := fe_77_40) (hx := Nat.le_of_ble_eq_true rfl) (k := ?_)
      refine mj_b_aload (hE := fe_77_42) (hv := rfl) (k := ?_)
      refine mj_b_nul (hE := fe_77_44) (kn := fun q => ?_) (ks := fun qa q => ?_)
      · exact no _ _
      · cases q
    | some j =>
      have hjl := (List.findIdx?_eq_some_iff_getElem.mp hf).1
      have hj : S.2.1[j]? = some S.2.1[j] := List.getElem?_eq_getElem hjl
      have hj6 : j < 6 := by have := hx.2.2.2.1.2; omega
      have hC := sh_L L hsx hj6
      have hlk := hx.2.2.2.2.2.1 j _ hj
      have g25c := g25 (L := L) (I := I1) (R := R) p hC hlk.2.2.2.2
      have hcv : cl_cov I1 (sx + 29 + j) (S.2.1[j]).2.2.2.2 p = a_cov p S.2.1[j] := by simp only [cl_cov, a_cov, hlk.2.1]
      rw [hcv] at g25c
      refine (show mj_T pj_P 77 40 _ [va_rf (some (sx + 29 + j))] _ _ from ?_)
      refine mj_b_astore (hE := fe_77_40) (hx := Nat.le_of_ble_eq_true rfl) (k := ?_)
      refine mj_b_aload (hE := fe_77_42) (hv := rfl) (k := ?_)
      refine mj_b_nul (hE := fe_77_44) (kn := fun q => ?_) (ks := fun qa q => ?_)
      · cases q
      · refine (show mj_T pj_P 77 47 [.ref 1, .int p, .int t, .int _, .ref (sx + 29 + j)] [] _ _ from ?_)
        refine mj_b_rload (hE := fe_77_47) (hv := rfl) (k := ?_)
        refine mj_b_iload_n (hE := fe_77_49) (hv := rfl) (k := ?_)
        refine mj_b_callR (hE := fe_77_50) (hi := in_25) (h1 := g25c) (hc := mj_cok_v rfl rfl hC) (ha := rfl) (hr := rfl) ?_
        refine mj_b_if1 (hE := fe_77_53) (kt := fun m => ?_) (kf := fun m => ?_)
        · simp only [mj_cnd, Bool.not_eq_true', decide_eq_false_iff_not, pz_0, Bool.not_eq_false] at m
          have e : al_tk S.2.1 t p = some j := by unfold al_tk; rw [hf]; dsimp only; rw [hj]; dsimp only; rw [if_pos m]
          rw [e]
          refine mj_b_rload (hE := fe_77_64) (hv := rfl) (k := ?_)
          refine mj_b_rload_n (hE := fe_77_66) (hv := rfl) (k := ?_)
          refine mj_b_getQ (hE := fe_77_67) (hM := by assumption) (hv := by assumption) (k := ?_)
          refine mj_b_getV (hE := fe_77_70) (hM := by assumption) (hv := by assumption) (k := ?_)
          refine mj_b_putI (hE := fe_77_73) (hw := Or.inl rfl) (hM := hC) (k := ?_)
          refine mj_b_rload_n (hE := fe_77_76) (hv := rfl) (k := ?_)
          refine mj_b_sipush (hE := fe_77_77) (k := ?_)
          have hfr : fr_I sx I1 (mj_u I1 (sx + 29 + j) 2 S.2.2.1) := fr_I.u (by omega) (by omega)
          exact q_carry fe_77_80 fe_77_83 in_77 (hc1.fr hfr fr_R.refl h.2.2.2.1) (hx.lend hj S.2.2.1) ((f1.C hsx).trans (hfr.C hsx)) fr_C.refl 204
        · simp only [mj_cnd, Bool.not_eq_false', decide_eq_true_eq, pz_0] at m
          have e : al_tk S.2.1 t p = none := by unfold al_tk; rw [hf]; dsimp only; rw [hj]; dsimp only; rw [m]; rfl
          rw [e]
          exact no _ _
  · simp only [mj_cnd, decide_eq_false_iff_not] at g
    have hpo : o_unl S H f w ms p t = o_ref S w ms (a_fstR S.1 S.2.1 H p (pf_path p)) := by unfold o_unl o_ans; rw [if_neg g]
    rw [hpo]
    refine mj_b_rload_n (hE := fe_77_15) (hv := rfl) (k := ?_)
    refine mj_b_iload_n (hE := fe_77_16) (hv := rfl) (k := ?_)
    exact q_close fe_77_17 fe_77_20 in_77 h fr_C.refl fr_C.refl _
end RC
