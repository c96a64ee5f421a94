/-! ===== the class: move ===== -/
section RG
variable {L sn sx n : Nat} {pn px : Nat → Nat} {S : ty_st} {H : ty_hd} {f w : Int32} {ms : List Int32} {I I0 : Nat → Nat → Int32} {R R0 : Nat → Nat → Option Nat}
set_option maxHeartbeats 2000000 in
theorem l67 {p q rr : Int32} {ov : Bool} {fin : List ty_rw} {Q : Option Value × mj_H → Prop}
    (hk : ∀ px1 I1 R1 v6 v7, c_all sn sx pn px1 S H f w ms I1 R1 → cs_rep sx px1 (fin, S.2) I1 R1 → fr_C I0 I1 → fr_C R0 R1 → mj_T pj_P 67 164 [.ref 1, .int p, .int q, .int (pz ov), .int rr, v6, v7] [] (mz_SH L, I1, R1) Q) :
    ∀ (k i : Nat) (px1 : Nat → Nat) (I1 : Nat → Nat → Int32) (R1 : Nat → Nat → Option Nat) (v7 : Value) (b : List ty_rw), i + k = S.1.length → c_all sn sx pn px1 S H f w ms I1 R1 → cs_rep sx px1 (b, S.2) I1 R1 → fr_C I0 I1 → fr_C R0 R1 → x_mvl p q (S.1.drop i) b = fin → cp_rdy (fun x => pf_within x p) (fun x => pf_answering x p q) (S.1.drop i) b → mj_T pj_P 67 98 [.ref 1, .int p, .int q, .int (pz ov), .int rr, .int (nI i), v7] [] (mz_SH L, I1, R1) Q := by
  have h1 := sh_1 L
  intro k
  induction k with
  | zero =>
    intro i px1 I1 R1 v7 b hi hc hx fI fR he hrd
    have hin : i = S.1.length := by omega
    subst hin
    have t1 := hc.1.1
    have hSn := sh_S L hc.2.2.1.1
    have hn := hc.2.2.1.2.2.1.1
    rw [List.drop_length] at he
    refine mj_b_iload (hE := fe_67_98) (hv := rfl) (k := ?_)
    refine mj_b_rload_n (hE := fe_67_100) (hv := rfl) (k := ?_)
    refine mj_b_getQ (hE := fe_67_101) (hM := by assumption) (hv := by assumption) (k := ?_)
    refine mj_b_getV (hE := fe_67_104) (hM := by assumption) (hv := by assumption) (k := ?_)
    refine mj_b_if2 (hE := fe_67_107) (kt := fun g => ?_) (kf := fun g => ?_)
    · refine hk _ _ _ _ _ hc ?_ fI fR
      rw [← he]
      exact hx
    · simp [mj_cnd] at g
  | succ k ih =>
    intro i px1 I1 R1 v7 b hi hc hx fI fR he hrd
    have t1 := hc.1.1
    have t2 := hc.1.2.1
    have hs := hc.2.2.1
    have hSn := sh_S L hs.1
    have hSx := sh_S L hx.1
    have hA := sh_A L hs.1
    have hne : sn ≠ sx := by have := hc.2.1; omega
    obtain ⟨hn, hn13⟩ := hs.2.2.1
    have hi13 : i < 13 := by omega
    have hlt : i < S.1.length := by omega
    have hR := hs.2.1.1
    obtain ⟨hr1, hr2⟩ := hs.2.1.2.2.1 i hi13
    have hC := sh_R L hs.1 hr2
    have hgi : S.1[i]? = some S.1[i] := List.getElem?_eq_getElem hlt
    have hp0 : I1 (sn + 3 + 2 * pn i) 0 = (S.1[i]).1 := hs.path hgi
    have hp3 : I1 (sn + 3 + 2 * pn i) 3 = (S.1[i]).2.2.2.1 := by
      have := hs.2.2.2.2.1 i _ hgi
      rw [← this]
      rfl
    rw [drop_get hlt] at he hrd
    have hnx : ∀ px2 I2 R2 v7 b, c_all sn sx pn px2 S H f w ms I2 R2 → cs_rep sx px2 (b, S.2) I2 R2 → fr_C I0 I2 → fr_C R0 R2 → x_mvl p q (S.1.drop (i + 1)) b = fin → cp_rdy (fun x => pf_within x p) (fun x => pf_answering x p q) (S.1.drop (i + 1)) b → mj_T pj_P 67 158 [.ref 1, .int p, .int q, .int (pz ov), .int rr, .int (nI i), v7] [] (mz_SH L, I2, R2) Q := by
      intro px2 I2 R2 v7 b hc2 hx2 fI2 fR2 he2 hrd2
      refine mj_b_iinc (hE := fe_67_158) (hv := rfl) (k := ?_)
      refine mj_b_goto (hE := fe_67_161) (k := ?_)
      exact (show mj_T pj_P 67 98 [.ref 1, .int p, .int q, .int (pz ov), .int rr, .int (nI i + 1), v7] [] (mz_SH L, I2, R2) Q from (nI_succ i) ▸ ih (i + 1) px2 I2 R2 v7 b (by omega) hc2 hx2 fI2 fR2 he2 hrd2)
    refine mj_b_iload (hE := fe_67_98) (hv := rfl) (k := ?_)
    refine mj_b_rload_n (hE := fe_67_100) (hv := rfl) (k := ?_)
    refine mj_b_getQ (hE := fe_67_101) (hM := by assumption) (hv := by assumption) (k := ?_)
    refine mj_b_getV (hE := fe_67_104) (hM := by assumption) (hv := by assumption) (k := ?_)
    refine mj_b_if2 (hE := fe_67_107) (kt := fun g => ?_) (kf := fun g => ?_)
    · simp only [mj_cnd, decide_eq_true_eq] at g
      exact absurd g (nI_ge (by omega) (by omega))
    · refine mj_b_rload_n (hE := fe_67_110) (hv := rfl) (k := ?_)
      refine mj_b_getQ (hE := fe_67_111) (hM := by assumption) (hv := by assumption) (k := ?_)
      refine mj_b_getQ (hE := fe_67_114) (hM := by assumption) (hv := by assumption) (k := ?_)
      refine mj_b_iload (hE := fe_67_117) (hv := rfl) (k := ?_)
      refine mj_b_aaldQ (hE := fe_67_119) (hM := by assumption) (ht := by decide) (hj := rfl) (hc := by omega) (hn := by decide) (hv := by assumption) (k := ?_)
      refine mj_b_rstore (hE := fe_67_120) (hx := Nat.le_of_ble_eq_true rfl) (k := ?_)
      refine mj_b_rload (hE := fe_67_122) (hv := rfl) (k := ?_)
      refine mj_b_getV (hE := fe_67_124) (hM := by assumption) (hv := by assumption) (k := ?_)
      refine mj_b_iload_n (hE := fe_67_127) (hv := rfl) (k := ?_)
      refine mj_b_callR (hE := fe_67_128) (hi := in_55) (h1 := g55 _ _ _) (hc := mj_cok_s rfl) (ha := rfl) (hr := rfl) ?_
      refine mj_b_if1 (hE := fe_67_131) (kt := fun m => ?_) (kf := fun m => ?_)
      · simp only [mj_cnd, decide_eq_true_eq, pz_0] at m
        refine hnx _ _ _ _ _ hc hx fI fR ?_ (hrd.no m)
        rw [← he, x_mvl, if_neg (by rw [m]; decide)]
      · simp only [mj_cnd, decide_eq_false_iff_not, pz_0, Bool.not_eq_false] at m
        obtain ⟨r1, r2, r3, r4⟩ := hrd.yes m
        refine mj_b_rload_n (hE := fe_67_134) (hv := rfl) (k := ?_)
        refine mj_b_getQ (hE := fe_67_135) (hM := by assumption) (hv := by assumption) (k := ?_)
        refine mj_b_rload (hE := fe_67_138) (hv := rfl) (k := ?_)
        refine mj_b_rload (hE := fe_67_140) (hv := rfl) (k := ?_)
        refine mj_b_getV (hE := fe_67_142) (hM := by assumption) (hv := by assumption) (k := ?_)
        refine mj_b_iload_n (hE := fe_67_145) (hv := rfl) (k := ?_)
        refine mj_b_iload_n (hE := fe_67_146) (hv := rfl) (k := ?_)
        refine mj_b_callR (hE := fe_67_147) (hi := in_64) (h1 := g64 _ _ _ _) (hc := mj_cok_s rfl) (ha := rfl) (hr := rfl) ?_
        refine mj_b_rload (hE := fe_67_150) (hv := rfl) (k := ?_)
        refine mj_b_getV (hE := fe_67_152) (hM := by assumption) (hv := by assumption) (k := ?_)
        have hxb := hx.1
        refine mj_b_call (hE := fe_67_155) (hi := in_66) (h1 := g66 (j := i) (pf_answering (S.1[i]).1 p q) (S.1[i]).2.2.2.1 hx hc.2.2.1 hne hgi r1 r2 r3) (hc := mj_cok_v rfl rfl hSx) (ha := rfl) (hr := rfl) ?_
        rintro v' M1 ⟨px2, I3, R3, pre, suf, hsp, hsor, hM, hx3, f3, fR3⟩
        cases hM
        refine hnx px2 I3 R3 _ _ (hc.fr f3 fR3 hx3.2.1) hx3 (fI.trans (f3.C hxb)) (fR.trans (fR3.C hxb)) ?_ ?_
        · dsimp only at hsp
          rw [ar_ins_eq pre suf hsor, ← hsp, ← he, x_mvl, if_pos m]
        · dsimp only at hsp
          rw [ar_ins_eq pre suf hsor, ← hsp]
          exact r4 _
def o_mov (S : ty_st) (H : ty_hd) (f w : Int32) (ms : List Int32) (p q : Int32) (ov : Bool) : ty_oc :=
  o_ans S w ms (a_two (a_two (a_fstR S.1 S.2.1 H p (pf_path p && pf_path q)) (a_tgtR S.1 p q ov)) (a_movR S.1 S.2.1 (a_sub H.1) p q)) (o_car S f w ms (x_mov S p q) (if ar_has S.1 q = true then 204 else 201))
set_option maxHeartbeats 2000000 in
/-- LockedTree.move -/
theorem g67 (p q : Int32) (ov : Bool) (hw : wf_st n S) (h : c_all sn sx pn px S H f w ms I R) :
    mj_G pj_P 67 [.ref 1, .int p, .int q, .int (pz ov)] (mz_SH L, I, R) (o_post L I R H (o_mov S H f w ms p q ov)) := by
  have h1 := sh_1 L
  have hsx : sx = 2 ∨ sx = 37 := by have := h.2.1; omega
  have hne : sx ≠ sn := by have := h.2.1; omega
  have t1 := h.1.1
  have t2 := h.1.2.1
  have hSx := sh_S L hsx
  have hSn := sh_S L h.2.2.1.1
  have h55 : ∀ rr : Int32, rr = a_two (a_two (a_fstR S.1 S.2.1 H p (pf_path p && pf_path q)) (a_tgtR S.1 p q ov)) (a_movR S.1 S.2.1 (a_sub H.1) p q) → mj_T pj_P 67 55 [.ref 1, .int p, .int q, .int (pz ov), .int rr, .retAddr 0, .retAddr 0] [] (mz_SH L, I, R) (o_post L I R H (o_mov S H f w ms p q ov)) := by
    intro rr hrr
    refine mj_b_iload (hE := fe_67_55) (hv := rfl) (k := ?_)
    refine mj_b_iconst (hE := fe_67_57) (k := ?_)
    refine mj_b_if2 (hE := fe_67_58) (kt := fun g => ?_) (kf := fun g => ?_)
    · simp only [mj_cnd, decide_eq_true_eq] at g
      rw [hrr] at g
      obtain ⟨g12, g3⟩ := a_two_ok g
      obtain ⟨g1, g2⟩ := a_two_ok g12
      have hok := a_fstR_ok g1
      rw [Bool.and_eq_true] at hok
      obtain ⟨hrd, -⟩ := rdy_mov hw.pre hok.1 hok.2 g2 g3
      have hpo : o_mov S H f w ms p q ov = o_car S f w ms (x_mov S p q) (if ar_has S.1 q = true then 204 else 201) := by unfold o_mov o_ans; rw [if_pos g]
      rw [hpo]
      refine mj_b_rload_n (hE := fe_67_68) (hv := rfl) (k := ?_)
      refine mj_b_getQ (hE := fe_67_69) (hM := by assumption) (hv := by assumption) (k := ?_)
      refine mj_b_rload_n (hE := fe_67_72) (hv := rfl) (k := ?_)
      refine mj_b_getQ (hE := fe_67_73) (hM := by assumption) (hv := by assumption) (k := ?_)
      refine mj_b_call (hE := fe_67_76) (hi := in_39) (h1 := g39 hsx hne h.2.2.2.1 h.2.2.1) (hc := mj_cok_v rfl rfl hSx) (ha := rfl) (hr := rfl) ?_
      rintro v' M1 ⟨I1, hM, hx, f1⟩
      cases hM
      have hc1 := h.fr f1 fr_R.refl h.2.2.2.1
      refine (show mj_T pj_P 67 79 [.ref 1, .int p, .int q, .int (pz ov), .int rr, .retAddr 0, .retAddr 0] [] (mz_SH L, I1, R) _ from ?_)
      refine mj_b_rload_n (hE := fe_67_79) (hv := rfl) (k := ?_)
      refine mj_b_getQ (hE := fe_67_80) (hM := by assumption) (hv := by assumption) (k := ?_)
      refine mj_b_iload_n (hE := fe_67_83) (hv := rfl) (k := ?_)
      refine mj_b_call (hE := fe_67_84) (hi := in_57) (h1 := g57 q hx) (hc := mj_cok_v rfl rfl hSx) (ha := rfl) (hr := rfl) ?_
      rintro v' M1 ⟨px2, I2, R2, hM, hx2, f2, fR2⟩
      cases hM
      have hc2 := hc1.fr f2 fR2 hx2.2.1
      have t2 := hc2.1.2.1
      refine (show mj_T pj_P 67 87 [.ref 1, .int p, .int q, .int (pz ov), .int rr, .retAddr 0, .retAddr 0] [] (mz_SH L, I2, R2) _ from ?_)
      refine mj_b_rload_n (hE := fe_67_87) (hv := rfl) (k := ?_)
      refine mj_b_getQ (hE := fe_67_88) (hM := by assumption) (hv := by assumption) (k := ?_)
      refine mj_b_iload_n (hE := fe_67_91) (hv := rfl) (k := ?_)
      refine mj_b_call (hE := fe_67_92) (hi := in_57) (h1 := g57 p hx2) (hc := mj_cok_v rfl rfl hSx) (ha := rfl) (hr := rfl) ?_
      rintro v' M1 ⟨px3, I3, R3, hM, hx3, f3, fR3⟩
      cases hM
      have hc3 := hc2.fr f3 fR3 hx3.2.1
      refine (show mj_T pj_P 67 95 [.ref 1, .int p, .int q, .int (pz ov), .int rr, .retAddr 0, .retAddr 0] [] (mz_SH L, I3, R3) _ from ?_)
      refine mj_b_iconst (hE := fe_67_95) (k := ?_)
      refine mj_b_istore (hE := fe_67_96) (hx := Nat.le_of_ble_eq_true rfl) (k := ?_)
      refine l67 (I0 := I) (R0 := R) (fin := x_mvl p q S.1 ((S.1.filter (ar_out q)).filter (ar_out p))) ?_ S.1.length 0 px3 I3 R3 _ _ (by omega) hc3 hx3 (((f1.C hsx).trans (f2.C hsx)).trans (f3.C hsx)) ((fR2.C hsx).trans (fR3.C hsx)) rfl hrd
      intro px4 I4 R4 v6 v7 hc4 hx4 fI4 fR4
      have t1 := hc4.1.1
      refine mj_b_rload_n (hE := fe_67_164) (hv := rfl) (k := ?_)
      refine mj_b_rload_n (hE := fe_67_165) (hv := rfl) (k := ?_)
      refine mj_b_getQ (hE := fe_67_166) (hM := by assumption) (hv := by assumption) (k := ?_)
      refine mj_b_iload_n (hE := fe_67_169) (hv := rfl) (k := ?_)
      refine mj_b_callR (hE := fe_67_170) (hi := in_32) (h1 := g32' q hc4.2.2.1) (hc := mj_cok_v rfl rfl hSn) (ha := rfl) (hr := rfl) ?_
      refine mj_b_if1 (hE := fe_67_173) (kt := fun m => ?_) (kf := fun m => ?_)
      · simp only [mj_cnd, decide_eq_true_eq, pz_0] at m
        refine mj_b_sipush (hE := fe_67_182) (k := ?_)
        rw [m, if_neg (by decide)]
        exact q_carry fe_67_185 fe_67_188 in_67 hc4 hx4 fI4 fR4 201
      · simp only [mj_cnd, decide_eq_false_iff_not, pz_0, Bool.not_eq_false] at m
        refine mj_b_sipush (hE := fe_67_176) (k := ?_)
        refine mj_b_goto (hE := fe_67_179) (k := ?_)
        rw [m, if_pos rfl]
        exact q_carry fe_67_185 fe_67_188 in_67 hc4 hx4 fI4 fR4 204
    · simp only [mj_cnd, decide_eq_false_iff_not] at g
      have hpo : o_mov S H f w ms p q ov = o_ref S w ms rr := by unfold o_mov o_ans; rw [← hrr, if_neg g]
      rw [hpo]
      refine mj_b_rload_n (hE := fe_67_61) (hv := rfl) (k := ?_)
      refine mj_b_iload (hE := fe_67_62) (hv := rfl) (k := ?_)
      exact q_close fe_67_64 fe_67_67 in_67 h fr_C.refl fr_C.refl rr
  have h41 : ∀ rr : Int32, rr = a_two (a_fstR S.1 S.2.1 H p (pf_path p && pf_path q)) (a_tgtR S.1 p q ov) → mj_T pj_P 67 41 [.ref 1, .int p, .int q, .int (pz ov), .int rr, .retAddr 0, .retAddr 0] [] (mz_SH L, I, R) (o_post L I R H (o_mov S H f w ms p q ov)) := by
    intro rr hrr
    refine mj_b_iload (hE := fe_67_41) (hv := rfl) (k := ?_)
    refine mj_b_iconst (hE := fe_67_43) (k := ?_)
    refine mj_b_if2 (hE := fe_67_44) (kt := fun g => ?_) (kf := fun g => ?_)
    · simp only [mj_cnd, Bool.not_eq_true', decide_eq_false_iff_not] at g
      exact h55 _ (by rw [← hrr]; unfold a_two; rw [if_neg g])
    · simp only [mj_cnd, Bool.not_eq_false', decide_eq_true_eq] at g
      refine mj_b_rload_n (hE := fe_67_47) (hv := rfl) (k := ?_)
      refine mj_b_iload_n (hE := fe_67_48) (hv := rfl) (k := ?_)
      refine mj_b_iload_n (hE := fe_67_49) (hv := rfl) (k := ?_)
      refine mj_b_callR (hE := fe_67_50) (hi := in_68) (h1 := g68' h p q) (hc := mj_cok_v rfl rfl h1) (ha := rfl) (hr := rfl) ?_
      refine mj_b_istore (hE := fe_67_53) (hx := Nat.le_of_ble_eq_true rfl) (k := ?_)
      exact h55 _ (by rw [← hrr, g]; unfold a_two; rw [if_pos rfl])
  have h21 : ∀ ok : Bool, ok = (pf_path p && pf_path q) → mj_T pj_P 67 21 [.ref 1, .int p, .int q, .int (pz ov), .retAddr 0, .retAddr 0, .retAddr 0] [.int (pz ok), .int p, .ref 1] (mz_SH L, I, R) (o_post L I R H (o_mov S H f w ms p q ov)) := by
    intro ok hok
    refine mj_b_callR (hE := fe_67_21) (hi := in_19) (h1 := g19' h p ok) (hc := mj_cok_v rfl rfl h1) (ha := rfl) (hr := rfl) ?_
    refine mj_b_istore (hE := fe_67_24) (hx := Nat.le_of_ble_eq_true rfl) (k := ?_)
    refine mj_b_iload (hE := fe_67_26) (hv := rfl) (k := ?_)
    refine mj_b_iconst (hE := fe_67_28) (k := ?_)
    refine mj_b_if2 (hE := fe_67_29) (kt := fun g => ?_) (kf := fun g => ?_)
    · simp only [mj_cnd, Bool.not_eq_true', decide_eq_false_iff_not] at g
      exact h41 _ (by rw [← hok]; unfold a_two; rw [if_neg g])
    · simp only [mj_cnd, Bool.not_eq_false', decide_eq_true_eq] at g
      refine mj_b_rload_n (hE := fe_67_32) (hv := rfl) (k := ?_)
      refine mj_b_iload_n (hE := fe_67_33) (hv := rfl) (k := ?_)
      refine mj_b_iload_n (hE := fe_67_34) (hv := rfl) (k := ?_)
      refine mj_b_iload_n (hE := fe_67_35) (hv := rfl) (k := ?_)
      refine mj_b_callR (hE := fe_67_36) (hi := in_59) (h1 := g59' h p q ov) (hc := mj_cok_v rfl rfl h1) (ha := rfl) (hr := rfl) ?_
      refine mj_b_istore (hE := fe_67_39) (hx := Nat.le_of_ble_eq_true rfl) (k := ?_)
      exact h41 _ (by rw [← hok]; unfold a_two; rw [if_pos g])
  refine mj_enter in_67 (L := [.ref 1, .int p, .int q, .int (pz ov), .retAddr 0, .retAddr 0, .retAddr 0]) rfl ?_
  refine mj_b_rload_n (hE := fe_67_0) (hv := rfl) (k := ?_)
  refine mj_b_iload_n (hE := fe_67_1) (hv := rfl) (k := ?_)
  refine mj_b_iload_n (hE := fe_67_2) (hv := rfl) (k := ?_)
  refine mj_b_callR (hE := fe_67_3) (hi := in_14) (h1 := g14 _ _) (hc := mj_cok_s rfl) (ha := rfl) (hr := rfl) ?_
  refine mj_b_if1 (hE := fe_67_6) (kt := fun h6 => ?_) (kf := fun h6 => ?_)
  · simp only [mj_cnd, decide_eq_true_eq, decide_eq_false_iff_not, Bool.not_eq_true', Bool.not_eq_false', pz_0, Bool.not_eq_false, Bool.not_eq_true] at h6
    refine mj_b_iconst (hE := fe_67_20) (k := ?_)
    exact h21 false (by simp [h6])
  · simp only [mj_cnd, decide_eq_true_eq, decide_eq_false_iff_not, Bool.not_eq_true', Bool.not_eq_false', pz_0, Bool.not_eq_false, Bool.not_eq_true] at h6
    refine mj_b_iload_n (hE := fe_67_9) (hv := rfl) (k := ?_)
    refine mj_b_callR (hE := fe_67_10) (hi := in_14) (h1 := g14 _ _) (hc := mj_cok_s rfl) (ha := rfl) (hr := rfl) ?_
    refine mj_b_if1 (hE := fe_67_13) (kt := fun h13 => ?_) (kf := fun h13 => ?_)
    · simp only [mj_cnd, decide_eq_true_eq, decide_eq_false_iff_not, Bool.not_eq_true', Bool.not_eq_false', pz_0, Bool.not_eq_false, Bool.not_eq_true] at h13
      refine mj_b_iconst (hE := fe_67_20) (k := ?_)
      exact h21 false (by simp [h6, h13])
    · simp only [mj_cnd, decide_eq_true_eq, decide_eq_false_iff_not, Bool.not_eq_true', Bool.not_eq_false', pz_0, Bool.not_eq_false, Bool.not_eq_true] at h13
      refine mj_b_iconst (hE := fe_67_16) (k := ?_)
      refine mj_b_goto (hE := fe_67_17) (k := ?_)
      exact h21 true (by simp [h6, h13])
end RG
