/-! ===== the class: copy ===== -/
section RF
variable {L sn sx n : Nat} {pn px : Nat → Nat} {S : ty_st} {H : ty_hd} {f w : Int32} {ms : List Int32} {I I0 : Nat → Nat → Int32} {R R0 : Nat → Nat → Option Nat}
set_option maxHeartbeats 2000000 in
theorem l58 {p q rr : Int32} {dq ov : Bool} {fin : List ty_rw × Int32} {Q : Option Value × mj_H → Prop}
    (hk : ∀ px1 I1 R1 v6 v7, c_all sn sx pn px1 S H f w ms I1 R1 → cs_rep sx px1 (fin.1, S.2.1, S.2.2.1, fin.2, S.2.2.2.2) I1 R1 → fr_C I0 I1 → fr_C R0 R1 → mj_T pj_P 58 161 [.ref 1, .int p, .int q, .int (pz dq), .int (pz ov), .int rr, v6, v7] [] (mz_SH L, I1, R1) Q) :
    ∀ (k i : Nat) (px1 : Nat → Nat) (I1 : Nat → Nat → Int32) (R1 : Nat → Nat → Option Nat) (v7 : Value) (b : List ty_rw) (ns : Int32), i + k = S.1.length → c_all sn sx pn px1 S H f w ms I1 R1 → cs_rep sx px1 (b, S.2.1, S.2.2.1, ns, S.2.2.2.2) I1 R1 → fr_C I0 I1 → fr_C R0 R1 → x_cpl p q dq (S.1.drop i) b ns = fin → cp_rdy (fun x => pf_taken x p dq) (fun x => pf_answering x p q) (S.1.drop i) b → mj_T pj_P 58 92 [.ref 1, .int p, .int q, .int (pz dq), .int (pz ov), .int rr, .int (nI i), v7] [] (mz_SH L, I1, R1) Q := by
  have h1 := sh_1 L
  intro k
  induction k with
  | zero =>
    intro i px1 I1 R1 v7 b ns hi hc hx fI fR he hrd
    have hin : i = S.1.length := by omega
    subst hin
    have t1 := hc.1.1
    have hSn := sh_S L hc.2.2.1.1
    have hn := hc.2.2.1.2.2.1.1
    rw [List.drop_length] at he
    refine mj_b_iload (hE := fe_58_92) (hv := rfl) (k := ?_)
    refine mj_b_rload_n (hE := fe_58_94) (hv := rfl) (k := ?_)
    refine mj_b_getQ (hE := fe_58_95) (hM := by assumption) (hv := by assumption) (k := ?_)
    refine mj_b_getV (hE := fe_58_98) (hM := by assumption) (hv := by assumption) (k := ?_)
    refine mj_b_if2 (hE := fe_58_101) (kt := fun g => ?_) (kf := fun g => ?_)
    · refine hk _ _ _ _ _ hc ?_ fI fR
      rw [← he]
      exact hx
    · simp [mj_cnd] at g
  | succ k ih =>
    intro i px1 I1 R1 v7 b ns hi hc hx fI fR he hrd
    have t1 := hc.1.1
    have t2 := hc.1.2.1
    have hs := hc.2.2.1
    have hSn := sh_S L hs.1
    have hSx := sh_S L hx.1
    have hA := sh_A L hs.1
    have hne : sn ≠ sx := by have := hc.2.1; omega
    obtain ⟨hn, hn13⟩ := hs.2.2.1
    have hi13 : i < 13 := by omega
    have hlt : i < S.1.length := by omega
    have hR := hs.2.1.1
    obtain ⟨hr1, hr2⟩ := hs.2.1.2.2.1 i hi13
    have hC := sh_R L hs.1 hr2
    have hgi : S.1[i]? = some S.1[i] := List.getElem?_eq_getElem hlt
    have hp0 : I1 (sn + 3 + 2 * pn i) 0 = (S.1[i]).1 := hs.path hgi
    rw [drop_get hlt] at he hrd
    have hnx : ∀ px2 I2 R2 v7 b ns, c_all sn sx pn px2 S H f w ms I2 R2 → cs_rep sx px2 (b, S.2.1, S.2.2.1, ns, S.2.2.2.2) I2 R2 → fr_C I0 I2 → fr_C R0 R2 → x_cpl p q dq (S.1.drop (i + 1)) b ns = fin → cp_rdy (fun x => pf_taken x p dq) (fun x => pf_answering x p q) (S.1.drop (i + 1)) b → mj_T pj_P 58 155 [.ref 1, .int p, .int q, .int (pz dq), .int (pz ov), .int rr, .int (nI i), v7] [] (mz_SH L, I2, R2) Q := by
      intro px2 I2 R2 v7 b ns hc2 hx2 fI2 fR2 he2 hrd2
      refine mj_b_iinc (hE := fe_58_155) (hv := rfl) (k := ?_)
      refine mj_b_goto (hE := fe_58_158) (k := ?_)
      exact (show mj_T pj_P 58 92 [.ref 1, .int p, .int q, .int (pz dq), .int (pz ov), .int rr, .int (nI i + 1), v7] [] (mz_SH L, I2, R2) Q from (nI_succ i) ▸ ih (i + 1) px2 I2 R2 v7 b ns (by omega) hc2 hx2 fI2 fR2 he2 hrd2)
    refine mj_b_iload (hE := fe_58_92) (hv := rfl) (k := ?_)
    refine mj_b_rload_n (hE := fe_58_94) (hv := rfl) (k := ?_)
    refine mj_b_getQ (hE := fe_58_95) (hM := by assumption) (hv := by assumption) (k := ?_)
    refine mj_b_getV (hE := fe_58_98) (hM := by assumption) (hv := by assumption) (k := ?_)
    refine mj_b_if2 (hE := fe_58_101) (kt := fun g => ?_) (kf := fun g => ?_)
    · simp only [mj_cnd, decide_eq_true_eq] at g
      exact absurd g (nI_ge (by omega) (by omega))
    · refine mj_b_rload_n (hE := fe_58_104) (hv := rfl) (k := ?_)
      refine mj_b_getQ (hE := fe_58_105) (hM := by assumption) (hv := by assumption) (k := ?_)
      refine mj_b_getQ (hE := fe_58_108) (hM := by assumption) (hv := by assumption) (k := ?_)
      refine mj_b_iload (hE := fe_58_111) (hv := rfl) (k := ?_)
      refine mj_b_aaldQ (hE := fe_58_113) (hM := by assumption) (ht := by decide) (hj := rfl) (hc := by omega) (hn := by decide) (hv := by assumption) (k := ?_)
      refine mj_b_rstore (hE := fe_58_114) (hx := Nat.le_of_ble_eq_true rfl) (k := ?_)
      refine mj_b_rload (hE := fe_58_116) (hv := rfl) (k := ?_)
      refine mj_b_getV (hE := fe_58_118) (hM := by assumption) (hv := by assumption) (k := ?_)
      refine mj_b_iload_n (hE := fe_58_121) (hv := rfl) (k := ?_)
      refine mj_b_iload_n (hE := fe_58_122) (hv := rfl) (k := ?_)
      refine mj_b_callR (hE := fe_58_123) (hi := in_63) (h1 := g63 _ _ _ _) (hc := mj_cok_s rfl) (ha := rfl) (hr := rfl) ?_
      refine mj_b_if1 (hE := fe_58_126) (kt := fun m => ?_) (kf := fun m => ?_)
      · simp only [mj_cnd, decide_eq_true_eq, pz_0] at m
        refine hnx _ _ _ _ _ _ hc hx fI fR ?_ (hrd.no m)
        rw [← he, x_cpl, if_neg (by rw [m]; decide)]
      · simp only [mj_cnd, decide_eq_false_iff_not, pz_0, Bool.not_eq_false] at m
        obtain ⟨r1, r2, r3, r4⟩ := hrd.yes m
        have e5 := hx.2.2.2.2.2.2.2.1
        refine mj_b_rload_n (hE := fe_58_129) (hv := rfl) (k := ?_)
        refine mj_b_getQ (hE := fe_58_130) (hM := by assumption) (hv := by assumption) (k := ?_)
        refine mj_b_rload (hE := fe_58_133) (hv := rfl) (k := ?_)
        refine mj_b_rload (hE := fe_58_135) (hv := rfl) (k := ?_)
        refine mj_b_getV (hE := fe_58_137) (hM := by assumption) (hv := by assumption) (k := ?_)
        refine mj_b_iload_n (hE := fe_58_140) (hv := rfl) (k := ?_)
        refine mj_b_iload_n (hE := fe_58_141) (hv := rfl) (k := ?_)
        refine mj_b_callR (hE := fe_58_142) (hi := in_64) (h1 := g64 _ _ _ _) (hc := mj_cok_s rfl) (ha := rfl) (hr := rfl) ?_
        refine mj_b_rload_n (hE := fe_58_145) (hv := rfl) (k := ?_)
        refine mj_b_getQ (hE := fe_58_146) (hM := by assumption) (hv := by assumption) (k := ?_)
        refine mj_b_call (hE := fe_58_149) (hi := in_44) (h1 := g44 hx.1) (hc := mj_cok_v rfl rfl hSx) (ha := rfl) (hr := rfl) ?_
        rintro v' M1 hM
        cases hM
        rw [e5]
        have hx2 := hx.nst (ns + 1)
        have f2 : fr_I sx I1 (mj_u I1 sx 5 (ns + 1)) := fr_I.u (by omega) (by omega)
        have hc2 := hc.fr f2 fr_R.refl hx.2.1
        have hxb := hx.1
        refine mj_b_call (hE := fe_58_152) (hi := in_66) (h1 := g66 (j := i) (pf_answering (S.1[i]).1 p q) ns hx2 hc2.2.2.1 hne hgi r1 r2 r3) (hc := mj_cok_v rfl rfl hSx) (ha := rfl) (hr := rfl) ?_
        rintro v' M1 ⟨px2, I3, R3, pre, suf, hsp, hsor, hM, hx3, f3, fR3⟩
        cases hM
        refine hnx px2 I3 R3 _ _ _ (hc2.fr f3 fR3 hx3.2.1) hx3 ((fI.trans (f2.C hxb)).trans (f3.C hxb)) (fR.trans (fR3.C hxb)) ?_ ?_
        · dsimp only at hsp
          rw [ar_ins_eq pre suf hsor, ← hsp, ← he, x_cpl, if_pos m]
        · dsimp only at hsp
          rw [ar_ins_eq pre suf hsor, ← hsp]
          exact r4 _
def o_cop (S : ty_st) (H : ty_hd) (f w : Int32) (ms : List Int32) (p q : Int32) (dq ov : Bool) : ty_oc :=
  o_ans S w ms (a_two (a_two (a_fstR S.1 S.2.1 H p (pf_path p && pf_path q)) (a_tgtR S.1 p q ov)) (a_copR S.1 S.2.1 (a_sub H.1) p q dq)) (o_car S f w ms (x_cop S p q dq) (if ar_has S.1 q = true then 204 else 201))
set_option maxHeartbeats 2000000 in
/-- LockedTree.copy -/
theorem g58 (p q : Int32) (dq ov : Bool) (hw : wf_st n S) (h : c_all sn sx pn px S H f w ms I R) :
    mj_G pj_P 58 [.ref 1, .int p, .int q, .int (pz dq), .int (pz ov)] (mz_SH L, I, R) (o_post L I R H (o_cop S H f w ms p q dq ov)) := by
  have h1 := sh_1 L
  have hsx : sx = 2 ∨ sx = 37 := by have := h.2.1; omega
  have hne : sx ≠ sn := by have := h.2.1; omega
  have t1 := h.1.1
  have t2 := h.1.2.1
  have hSx := sh_S L hsx
  have hSn := sh_S L h.2.2.1.1
  have h57 : ∀ rr : Int32, rr = a_two (a_two (a_fstR S.1 S.2.1 H p (pf_path p && pf_path q)) (a_tgtR S.1 p q ov)) (a_copR S.1 S.2.1 (a_sub H.1) p q dq) → mj_T pj_P 58 57 [.ref 1, .int p, .int q, .int (pz dq), .int (pz ov), .int rr, .retAddr 0, .retAddr 0] [] (mz_SH L, I, R) (o_post L I R H (o_cop S H f w ms p q dq ov)) := by
    intro rr hrr
    refine mj_b_iload (hE := fe_58_57) (hv := rfl) (k := ?_)
    refine mj_b_iconst (hE := fe_58_59) (k := ?_)
    refine mj_b_if2 (hE := fe_58_60) (kt := fun g => ?_) (kf := fun g => ?_)
    · simp only [mj_cnd, decide_eq_true_eq] at g
      rw [hrr] at g
      obtain ⟨g12, g3⟩ := a_two_ok g
      obtain ⟨g1, g2⟩ := a_two_ok g12
      have hok := a_fstR_ok g1
      rw [Bool.and_eq_true] at hok
      obtain ⟨hrd, -⟩ := rdy_cop hw.pre hok.1 hok.2 g2 g3
      have hpo : o_cop S H f w ms p q dq ov = o_car S f w ms (x_cop S p q dq) (if ar_has S.1 q = true then 204 else 201) := by unfold o_cop o_ans; rw [if_pos g]
      rw [hpo]
      refine mj_b_rload_n (hE := fe_58_70) (hv := rfl) (k := ?_)
      refine mj_b_getQ (hE := fe_58_71) (hM := by assumption) (hv := by assumption) (k := ?_)
      refine mj_b_rload_n (hE := fe_58_74) (hv := rfl) (k := ?_)
      refine mj_b_getQ (hE := fe_58_75) (hM := by assumption) (hv := by assumption) (k := ?_)
      refine mj_b_call (hE := fe_58_78) (hi := in_39) (h1 := g39 hsx hne h.2.2.2.1 h.2.2.1) (hc := mj_cok_v rfl rfl hSx) (ha := rfl) (hr := rfl) ?_
      rintro v' M1 ⟨I1, hM, hx, f1⟩
      cases hM
      have hc1 := h.fr f1 fr_R.refl h.2.2.2.1
      refine (show mj_T pj_P 58 81 [.ref 1, .int p, .int q, .int (pz dq), .int (pz ov), .int rr, .retAddr 0, .retAddr 0] [] (mz_SH L, I1, R) _ from ?_)
      refine mj_b_rload_n (hE := fe_58_81) (hv := rfl) (k := ?_)
      refine mj_b_getQ (hE := fe_58_82) (hM := by assumption) (hv := by assumption) (k := ?_)
      refine mj_b_iload_n (hE := fe_58_85) (hv := rfl) (k := ?_)
      refine mj_b_call (hE := fe_58_86) (hi := in_57) (h1 := g57 q hx) (hc := mj_cok_v rfl rfl hSx) (ha := rfl) (hr := rfl) ?_
      rintro v' M1 ⟨px2, I2, R2, hM, hx2, f2, fR2⟩
      cases hM
      have hc2 := hc1.fr f2 fR2 hx2.2.1
      refine (show mj_T pj_P 58 89 [.ref 1, .int p, .int q, .int (pz dq), .int (pz ov), .int rr, .retAddr 0, .retAddr 0] [] (mz_SH L, I2, R2) _ from ?_)
      refine mj_b_iconst (hE := fe_58_89) (k := ?_)
      refine mj_b_istore (hE := fe_58_90) (hx := Nat.le_of_ble_eq_true rfl) (k := ?_)
      refine l58 (I0 := I) (R0 := R) (fin := x_cpl p q dq S.1 (S.1.filter (ar_out q)) S.2.2.2.1) ?_ S.1.length 0 px2 I2 R2 _ _ _ (by omega) hc2 hx2 ((f1.C hsx).trans (f2.C hsx)) (fR2.C hsx) rfl hrd
      intro px3 I3 R3 v6 v7 hc3 hx3 fI3 fR3
      have t1 := hc3.1.1
      refine mj_b_rload_n (hE := fe_58_161) (hv := rfl) (k := ?_)
      refine mj_b_rload_n (hE := fe_58_162) (hv := rfl) (k := ?_)
      refine mj_b_getQ (hE := fe_58_163) (hM := by assumption) (hv := by assumption) (k := ?_)
      refine mj_b_iload_n (hE := fe_58_166) (hv := rfl) (k := ?_)
      refine mj_b_callR (hE := fe_58_167) (hi := in_32) (h1 := g32' q hc3.2.2.1) (hc := mj_cok_v rfl rfl hSn) (ha := rfl) (hr := rfl) ?_
      refine mj_b_if1 (hE := fe_58_170) (kt := fun m => ?_) (kf := fun m => ?_)
      · simp only [mj_cnd, decide_eq_true_eq, pz_0] at m
        refine mj_b_sipush (hE := fe_58_179) (k := ?_)
        rw [m, if_neg (by decide)]
        exact q_carry fe_58_182 fe_58_185 in_58 hc3 hx3 fI3 fR3 201
      · simp only [mj_cnd, decide_eq_false_iff_not, pz_0, Bool.not_eq_false] at m
        refine mj_b_sipush (hE := fe_58_173) (k := ?_)
        refine mj_b_goto (hE := fe_58_176) (k := ?_)
        rw [m, if_pos rfl]
        exact q_carry fe_58_182 fe_58_185 in_58 hc3 hx3 fI3 fR3 204
    · simp only [mj_cnd, decide_eq_false_iff_not] at g
      have hpo : o_cop S H f w ms p q dq ov = o_ref S w ms rr := by unfold o_cop o_ans; rw [← hrr, if_neg g]
      rw [hpo]
      refine mj_b_rload_n (hE := fe_58_63) (hv := rfl) (k := ?_)
      refine mj_b_iload (hE := fe_58_64) (hv := rfl) (k := ?_)
      exact q_close fe_58_66 fe_58_69 in_58 h fr_C.refl fr_C.refl rr
  have h42 : ∀ rr : Int32, rr = a_two (a_fstR S.1 S.2.1 H p (pf_path p && pf_path q)) (a_tgtR S.1 p q ov) → mj_T pj_P 58 42 [.ref 1, .int p, .int q, .int (pz dq), .int (pz ov), .int rr, .retAddr 0, .retAddr 0] [] (mz_SH L, I, R) (o_post L I R H (o_cop S H f w ms p q dq ov)) := by
    intro rr hrr
    refine mj_b_iload (hE := fe_58_42) (hv := rfl) (k := ?_)
    refine mj_b_iconst (hE := fe_58_44) (k := ?_)
    refine mj_b_if2 (hE := fe_58_45) (kt := fun g => ?_) (kf := fun g => ?_)
    · simp only [mj_cnd, Bool.not_eq_true', decide_eq_false_iff_not] at g
      exact h57 _ (by rw [← hrr]; unfold a_two; rw [if_neg g])
    · simp only [mj_cnd, Bool.not_eq_false', decide_eq_true_eq] at g
      refine mj_b_rload_n (hE := fe_58_48) (hv := rfl) (k := ?_)
      refine mj_b_iload_n (hE := fe_58_49) (hv := rfl) (k := ?_)
      refine mj_b_iload_n (hE := fe_58_50) (hv := rfl) (k := ?_)
      refine mj_b_iload_n (hE := fe_58_51) (hv := rfl) (k := ?_)
      refine mj_b_callR (hE := fe_58_52) (hi := in_60) (h1 := g60' h p q dq) (hc := mj_cok_v rfl rfl h1) (ha := rfl) (hr := rfl) ?_
      refine mj_b_istore (hE := fe_58_55) (hx := Nat.le_of_ble_eq_true rfl) (k := ?_)
      exact h57 _ (by rw [← hrr, g]; unfold a_two; rw [if_pos rfl])
  have h21 : ∀ ok : Bool, ok = (pf_path p && pf_path q) → mj_T pj_P 58 21 [.ref 1, .int p, .int q, .int (pz dq), .int (pz ov), .retAddr 0, .retAddr 0, .retAddr 0] [.int (pz ok), .int p, .ref 1] (mz_SH L, I, R) (o_post L I R H (o_cop S H f w ms p q dq ov)) := by
    intro ok hok
    refine mj_b_callR (hE := fe_58_21) (hi := in_19) (h1 := g19' h p ok) (hc := mj_cok_v rfl rfl h1) (ha := rfl) (hr := rfl) ?_
    refine mj_b_istore (hE := fe_58_24) (hx := Nat.le_of_ble_eq_true rfl) (k := ?_)
    refine mj_b_iload (hE := fe_58_26) (hv := rfl) (k := ?_)
    refine mj_b_iconst (hE := fe_58_28) (k := ?_)
    refine mj_b_if2 (hE := fe_58_29) (kt := fun g => ?_) (kf := fun g => ?_)
    · simp only [mj_cnd, Bool.not_eq_true', decide_eq_false_iff_not] at g
      exact h42 _ (by rw [← hok]; unfold a_two; rw [if_neg g])
    · simp only [mj_cnd, Bool.not_eq_false', decide_eq_true_eq] at g
      refine mj_b_rload_n (hE := fe_58_32) (hv := rfl) (k := ?_)
      refine mj_b_iload_n (hE := fe_58_33) (hv := rfl) (k := ?_)
      refine mj_b_iload_n (hE := fe_58_34) (hv := rfl) (k := ?_)
      refine mj_b_iload (hE := fe_58_35) (hv := rfl) (k := ?_)
      refine mj_b_callR (hE := fe_58_37) (hi := in_59) (h1 := g59' h p q ov) (hc := mj_cok_v rfl rfl h1) (ha := rfl) (hr := rfl) ?_
      refine mj_b_istore (hE := fe_58_40) (hx := Nat.le_of_ble_eq_true rfl) (k := ?_)
      exact h42 _ (by rw [← hok]; unfold a_two; rw [if_pos g])
  refine mj_enter in_58 (L := [.ref 1, .int p, .int q, .int (pz dq), .int (pz ov), .retAddr 0, .retAddr 0, .retAddr 0]) rfl ?_
  refine mj_b_rload_n (hE := fe_58_0) (hv := rfl) (k := ?_)
  refine mj_b_iload_n (hE := fe_58_1) (hv := rfl) (k := ?_)
  refine mj_b_iload_n (hE := fe_58_2) (hv := rfl) (k := ?_)
  refine mj_b_callR (hE := fe_58_3) (hi := in_14) (h1 := g14 _ _) (hc := mj_cok_s rfl) (ha := rfl) (hr := rfl) ?_
  refine mj_b_if1 (hE := fe_58_6) (kt := fun h6 => ?_) (kf := fun h6 => ?_)
  · simp only [mj_cnd, decide_eq_true_eq, decide_eq_false_iff_not, Bool.not_eq_true', Bool.not_eq_false', pz_0, Bool.not_eq_false, Bool.not_eq_true] at h6
    refine mj_b_iconst (hE := fe_58_20) (k := ?_)
    exact h21 false (by simp [h6])
  · simp only [mj_cnd, decide_eq_true_eq, decide_eq_false_iff_not, Bool.not_eq_true', Bool.not_eq_false', pz_0, Bool.not_eq_false, Bool.not_eq_true] at h6
    refine mj_b_iload_n (hE := fe_58_9) (hv := rfl) (k := ?_)
    refine mj_b_callR (hE := fe_58_10) (hi := in_14) (h1 := g14 _ _) (hc := mj_cok_s rfl) (ha := rfl) (hr := rfl) ?_
    refine mj_b_if1 (hE := fe_58_13) (kt := fun h13 => ?_) (kf := fun h13 => ?_)
    · simp only [mj_cnd, decide_eq_true_eq, decide_eq_false_iff_not, Bool.not_eq_true', Bool.not_eq_false', pz_0, Bool.not_eq_false, Bool.not_eq_true] at h13
      refine mj_b_iconst (hE := fe_58_20) (k := ?_)
      exact h21 false (by simp [h6, h13])
    · simp only [mj_cnd, decide_eq_true_eq, decide_eq_false_iff_not, Bool.not_eq_true', Bool.not_eq_false', pz_0, Bool.not_eq_false, Bool.not_eq_true] at h13
      refine mj_b_iconst (hE := fe_58_16) (k := ?_)
      refine mj_b_goto (hE := fe_58_17) (k := ?_)
      exact h21 true (by simp [h6, h13])
end RF
