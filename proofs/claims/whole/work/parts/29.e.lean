/-! ===== the class: delete ===== -/
section RE
variable {L sn sx n : Nat} {pn px : Nat → Nat} {S : ty_st} {H : ty_hd} {f w : Int32} {ms : List Int32} {I I0 : Nat → Nat → Int32} {R R0 : Nat → Nat → Option Nat}
/-- the list of what stays changes -/
theorem c_all.off {I' : Nat → Nat → Int32} {ms' : List Int32} (h : c_all sn sx pn px S H f w ms I R) (hI : ∀ x j, x ≠ 1 → x ≠ 86 → I' x j = I x j) (h3 : I' 1 3 = I 1 3) (h4 : I' 1 4 = I 1 4) (h6 : I' 1 6 = nI ms'.length) (hl : ms'.length ≤ 12) (hm : ∀ i v, ms'[i]? = some v → I' 86 i = v) : c_all sn sx pn px S H f w ms' I' R := by
  obtain ⟨ht, hsx, hs, hok, hh, hf, hw, -, -⟩ := h
  have hst : cs_rep sn pn S I' R := by
    obtain ⟨hb, hok2, ⟨n1, n2⟩, ⟨l1, l2⟩, hr, hk, k1, k2, k3⟩ := hs
    refine ⟨hb, hok2, ⟨?_, n2⟩, ⟨?_, l2⟩, ?_, ?_, ?_, ?_, ?_⟩
    · rw [hI _ _ (by omega) (by omega)]; exact n1
    · rw [hI _ _ (by omega) (by omega)]; exact l1
    · intro i r hi
      have hlt := (List.getElem?_eq_some_iff.mp hi).1
      have := (hok2.2.2.1 i (by omega)).2
      rw [rw_at_eq (I := I)]
      · exact hr i r hi
      · intro k; exact hI _ _ (by unfold cs_row; omega) (by unfold cs_row; omega)
      · intro k; exact hI _ _ (by unfold cs_row; omega) (by unfold cs_row; omega)
    · intro i l hi
      have hlt := (List.getElem?_eq_some_iff.mp hi).1
      exact lk_at_eq (fun k => hI _ _ (by omega) (by omega)) (hk i l hi)
    · rw [hI _ _ (by omega) (by omega)]; exact k1
    · rw [hI _ _ (by omega) (by omega)]; exact k2
    · rw [hI _ _ (by omega) (by omega)]; exact k3
  exact ⟨ht, hsx, hst, hok, hh.eq (fun x j h1 h2 => hI _ _ (by omega) (by omega)) (fun _ _ _ _ => rfl), h3.trans hf, h4.trans hw, ⟨h6, hl⟩, hm⟩
theorem c_all.ms0 (h : c_all sn sx pn px S H f w ms I R) : c_all sn sx pn px S H f w [] (mj_u I 1 6 0) R :=
  h.off (fun x j h1 _ => mj_u_na _ _ _ _ h1) (by simp [mj_u]) (by simp [mj_u]) (by simp [mj_u]; rfl) (by simp) (by simp)
theorem c_all.msA (h : c_all sn sx pn px S H f w ms I R) (hl : ms.length < 12) (v : Int32) : c_all sn sx pn px S H f w (ms ++ [v]) (mj_u (mj_u I 86 ms.length v) 1 6 (nI ms.length + 1)) R := by
  have hm := h.2.2.2.2.2.2.2.2
  refine h.off ?_ (by simp [mj_u]) (by simp [mj_u]) (by simp [mj_u, nI_succ]) (by simp; omega) ?_
  · intro x j h1 h2
    simp [mj_u, h1, h2]
  · intro i z hi
    rw [List.getElem?_append] at hi
    split at hi
    · rename_i hlt
      have : ¬ i = ms.length := by omega
      simp only [mj_u, this, and_false, if_false, show ¬ (86 : Nat) = 1 from by decide, false_and]
      exact hm i z hi
    · have hl2 := (List.getElem?_eq_some_iff.mp hi).1
      simp only [List.length_cons, List.length_nil] at hl2
      have e : i = ms.length := by omega
      subst e
      simp only [Nat.sub_self, List.getElem?_cons_zero, Option.some.injEq] at hi
      simp [mj_u, hi]
def dm_F (S : ty_st) (sub : Int32 → Bool) (p : Int32) (r : ty_rw) : Bool := pf_below r.1 p && a_clg S.2.1 sub r.1
set_option maxHeartbeats 2000000 in
theorem l54 {p : Int32} {Q : Option Value × mj_H → Prop} (hl : (a_mul S (a_sub H.1) p).length ≤ 12)
    (hk : ∀ I1 Lc, c_all sn sx pn px S H f w (a_mul S (a_sub H.1) p) I1 R → fr_C I0 I1 → mj_T pj_P 54 108 Lc [] (mz_SH L, I1, R) Q) :
    ∀ (k i : Nat) (I1 : Nat → Nat → Int32) (v3 v4 : Value), i + k = S.1.length → c_all sn sx pn px S H f w (((S.1.take i).filter (dm_F S (a_sub H.1) p)).map (fun r => r.1)) I1 R → fr_C I0 I1 → mj_T pj_P 54 7 [.ref 1, .int p, .int (nI i), v3, v4] [] (mz_SH L, I1, R) Q := by
  have h1 := sh_1 L
  intro k
  induction k with
  | zero =>
    intro i I1 v3 v4 hi hc hf
    have hin : i = S.1.length := by omega
    subst hin
    have t1 := hc.1.1
    have hSn := sh_S L hc.2.2.1.1
    have hn := hc.2.2.1.2.2.1.1
    rw [List.take_length] at hc
    refine mj_b_iload_n (hE := fe_54_7) (hv := rfl) (k := ?_)
    refine mj_b_rload_n (hE := fe_54_8) (hv := rfl) (k := ?_)
    refine mj_b_getQ (hE := fe_54_9) (hM := by assumption) (hv := by assumption) (k := ?_)
    refine mj_b_getV (hE := fe_54_12) (hM := by assumption) (hv := by assumption) (k := ?_)
    refine mj_b_if2 (hE := fe_54_15) (kt := fun g => ?_) (kf := fun g => ?_)
    · exact hk _ _ hc hf
    · simp [mj_cnd] at g
  | succ k ih =>
    intro i I1 v3 v4 hi hc hf
    have t1 := hc.1.1
    have t4 := hc.1.2.2.2
    have hs := hc.2.2.1
    have hSn := sh_S L hs.1
    have hA := sh_A L hs.1
    have h86 := sh_86 L
    obtain ⟨hn, hn13⟩ := hs.2.2.1
    have hi13 : i < 13 := by omega
    have hlt : i < S.1.length := by omega
    have hR := hs.2.1.1
    obtain ⟨hr1, hr2⟩ := hs.2.1.2.2.1 i hi13
    have hC := sh_R L hs.1 hr2
    have hp0 : I1 (sn + 3 + 2 * pn i) 0 = (S.1[i]).1 := hs.path (List.getElem?_eq_getElem hlt)
    have htk : S.1.take (i + 1) = S.1.take i ++ [S.1[i]] := by rw [List.take_append_getElem hlt]
    have hm6 := hc.2.2.2.2.2.2.2.1.1
    have hnx : ∀ I2 v3 v4, c_all sn sx pn px S H f w (((S.1.take (i + 1)).filter (dm_F S (a_sub H.1) p)).map (fun r => r.1)) I2 R → fr_C I0 I2 → mj_T pj_P 54 102 [.ref 1, .int p, .int (nI i), v3, v4] [] (mz_SH L, I2, R) Q := by
      intro I2 v3 v4 hc2 hf2
      refine mj_b_iinc (hE := fe_54_102) (hv := rfl) (k := ?_)
      refine mj_b_goto (hE := fe_54_105) (k := ?_)
      exact (show mj_T pj_P 54 7 [.ref 1, .int p, .int (nI i + 1), v3, v4] [] (mz_SH L, I2, R) Q from (nI_succ i) ▸ ih (i + 1) I2 v3 v4 (by omega) hc2 hf2)
    have h63 : ∀ st : Bool, st = dm_F S (a_sub H.1) p S.1[i] → mj_T pj_P 54 63 [.ref 1, .int p, .int (nI i), .int (S.1[i]).1, v4] [.int (pz st)] (mz_SH L, I1, R) Q := by
      intro st hst
      refine mj_b_istore (hE := fe_54_63) (hx := Nat.le_of_ble_eq_true rfl) (k := ?_)
      refine mj_b_iload (hE := fe_54_65) (hv := rfl) (k := ?_)
      refine mj_b_if1 (hE := fe_54_67) (kt := fun g => ?_) (kf := fun g => ?_)
      · simp only [mj_cnd, decide_eq_true_eq, pz_0] at g
        refine hnx _ _ _ ?_ hf
        rw [htk, List.filter_append]
        simp only [List.filter_cons, List.filter_nil, ← hst, g, Bool.false_eq_true, if_false, List.append_nil]
        exact hc
      · simp only [mj_cnd, decide_eq_false_iff_not, pz_0, Bool.not_eq_false] at g
        have hml : (((S.1.take i).filter (dm_F S (a_sub H.1) p)).map (fun r => r.1)).length < 12 := by
          have e1 : ((S.1.take (i + 1)).filter (dm_F S (a_sub H.1) p)).length ≤ (S.1.filter (dm_F S (a_sub H.1) p)).length := (List.Sublist.filter _ (List.take_sublist _ _)).length_le
          rw [htk, List.filter_append, List.length_append] at e1
          simp only [List.filter_cons, List.filter_nil, ← hst, g, if_true, List.length_cons, List.length_nil] at e1
          unfold a_mul at hl
          rw [List.length_map] at hl ⊢
          unfold dm_F at e1 ⊢
          omega
        refine mj_b_rload_n (hE := fe_54_70) (hv := rfl) (k := ?_)
        refine mj_b_getV (hE := fe_54_71) (hM := by assumption) (hv := by assumption) (k := ?_)
        refine mj_b_rload_n (hE := fe_54_74) (hv := rfl) (k := ?_)
        refine mj_b_getQ (hE := fe_54_75) (hM := by assumption) (hv := by assumption) (k := ?_)
        refine mj_b_len (hE := fe_54_78) (hM := h86) (ht := Or.inl (by decide)) (k := ?_)
        refine mj_b_if2 (hE := fe_54_79) (kt := fun q => ?_) (kf := fun q => ?_)
        · simp only [mj_cnd, decide_eq_true_eq] at q
          exact absurd q (by rw [show Int32.ofNat 12 = nI 12 from rfl, nI_le_iff (by omega) (by omega)]; omega)
        · refine mj_b_rload_n (hE := fe_54_82) (hv := rfl) (k := ?_)
          refine mj_b_getQ (hE := fe_54_83) (hM := by assumption) (hv := by assumption) (k := ?_)
          refine mj_b_rload_n (hE := fe_54_86) (hv := rfl) (k := ?_)
          refine mj_b_getV (hE := fe_54_87) (hM := by assumption) (hv := by assumption) (k := ?_)
          refine mj_b_iload_n (hE := fe_54_90) (hv := rfl) (k := ?_)
          refine mj_b_iast (hE := fe_54_91) (hM := h86) (hi := mj_ix_nI hml (by decide)) (k := ?_)
          refine mj_b_rload_n (hE := fe_54_92) (hv := rfl) (k := ?_)
          refine mj_b_dup (hE := fe_54_93) (hv := rfl) (k := ?_)
          refine mj_b_getV (hE := fe_54_94) (v := nI (((S.1.take i).filter (dm_F S (a_sub H.1) p)).map (fun r => r.1)).length) (hM := h1) (hv := by simp [mj_u, hm6]) (k := ?_)
          refine mj_b_iconst (hE := fe_54_97) (k := ?_)
          refine mj_b_iadd (hE := fe_54_98) (k := ?_)
          refine mj_b_putI (hE := fe_54_99) (hw := Or.inl rfl) (hM := by assumption) (k := ?_)
          rw [nI_clamp (by omega)]
          refine hnx _ _ _ ?_ (hf.trans ((fr_C.u (by omega) (by omega)).trans (fr_C.u (by omega) (by omega))))
          have := hc.msA hml (S.1[i]).1
          rw [htk, List.filter_append]
          simp only [List.filter_cons, List.filter_nil, ← hst, g, if_true, List.map_append, List.map_cons, List.map_nil]
          exact this
    refine mj_b_iload_n (hE := fe_54_7) (hv := rfl) (k := ?_)
    refine mj_b_rload_n (hE := fe_54_8) (hv := rfl) (k := ?_)
    refine mj_b_getQ (hE := fe_54_9) (hM := by assumption) (hv := by assumption) (k := ?_)
    refine mj_b_getV (hE := fe_54_12) (hM := by assumption) (hv := by assumption) (k := ?_)
    refine mj_b_if2 (hE := fe_54_15) (kt := fun g => ?_) (kf := fun g => ?_)
    · simp only [mj_cnd, decide_eq_true_eq] at g
      exact absurd g (nI_ge (by omega) (by omega))
    · refine mj_b_rload_n (hE := fe_54_18) (hv := rfl) (k := ?_)
      refine mj_b_getQ (hE := fe_54_19) (hM := by assumption) (hv := by assumption) (k := ?_)
      refine mj_b_getQ (hE := fe_54_22) (hM := by assumption) (hv := by assumption) (k := ?_)
      refine mj_b_iload_n (hE := fe_54_25) (hv := rfl) (k := ?_)
      refine mj_b_aaldQ (hE := fe_54_26) (hM := by assumption) (ht := by decide) (hj := rfl) (hc := by omega) (hn := by decide) (hv := by assumption) (k := ?_)
      refine mj_b_getV (hE := fe_54_27) (hM := by assumption) (hv := by assumption) (k := ?_)
      refine mj_b_istore_n (hE := fe_54_30) (hx := Nat.le_of_ble_eq_true rfl) (k := ?_)
      refine mj_b_iload_n (hE := fe_54_31) (hv := rfl) (k := ?_)
      refine mj_b_iload_n (hE := fe_54_32) (hv := rfl) (k := ?_)
      refine mj_b_callR (hE := fe_54_33) (hi := in_26) (h1 := g26 _ _ _) (hc := mj_cok_s rfl) (ha := rfl) (hr := rfl) ?_
      refine mj_b_if1 (hE := fe_54_36) (kt := fun h36 => ?_) (kf := fun h36 => ?_)
      · simp only [mj_cnd, decide_eq_true_eq, decide_eq_false_iff_not, Bool.not_eq_true', Bool.not_eq_false', pz_0, Bool.not_eq_false, Bool.not_eq_true] at h36
        refine mj_b_iconst (hE := fe_54_62) (k := ?_)
        exact h63 false (by simp [dm_F, a_clg, h36])
      · simp only [mj_cnd, decide_eq_true_eq, decide_eq_false_iff_not, Bool.not_eq_true', Bool.not_eq_false', pz_0, Bool.not_eq_false, Bool.not_eq_true] at h36
        refine mj_b_rload_n (hE := fe_54_39) (hv := rfl) (k := ?_)
        refine mj_b_iload_n (hE := fe_54_40) (hv := rfl) (k := ?_)
        refine mj_b_callR (hE := fe_54_41) (hi := in_33) (h1 := g33' hc _) (hc := mj_cok_v rfl rfl (by assumption)) (ha := rfl) (hr := rfl) ?_
        refine mj_b_if1 (hE := fe_54_44) (kt := fun h44 => ?_) (kf := fun h44 => ?_)
        · simp only [mj_cnd, decide_eq_true_eq, decide_eq_false_iff_not, Bool.not_eq_true', Bool.not_eq_false', pz_0, Bool.not_eq_false, Bool.not_eq_true] at h44
          refine mj_b_iconst (hE := fe_54_58) (k := ?_)
          refine mj_b_goto (hE := fe_54_59) (k := ?_)
          exact h63 true (by simp [dm_F, a_clg, h36, h44])
        · simp only [mj_cnd, decide_eq_true_eq, decide_eq_false_iff_not, Bool.not_eq_true', Bool.not_eq_false', pz_0, Bool.not_eq_false, Bool.not_eq_true] at h44
          refine mj_b_rload_n (hE := fe_54_47) (hv := rfl) (k := ?_)
          refine mj_b_iload_n (hE := fe_54_48) (hv := rfl) (k := ?_)
          refine mj_b_callR (hE := fe_54_49) (hi := in_31) (h1 := g31 _ _) (hc := mj_cok_s rfl) (ha := rfl) (hr := rfl) ?_
          refine mj_b_callR (hE := fe_54_52) (hi := in_33) (h1 := g33' hc _) (hc := mj_cok_v rfl rfl (by assumption)) (ha := rfl) (hr := rfl) ?_
          refine mj_b_if1 (hE := fe_54_55) (kt := fun h55 => ?_) (kf := fun h55 => ?_)
          · simp only [mj_cnd, decide_eq_true_eq, decide_eq_false_iff_not, Bool.not_eq_true', Bool.not_eq_false', pz_0, Bool.not_eq_false, Bool.not_eq_true] at h55
            refine mj_b_iconst (hE := fe_54_62) (k := ?_)
            exact h63 false (by simp [dm_F, a_clg, h36, h44, h55])
          · simp only [mj_cnd, decide_eq_true_eq, decide_eq_false_iff_not, Bool.not_eq_true', Bool.not_eq_false', pz_0, Bool.not_eq_false, Bool.not_eq_true] at h55
            refine mj_b_iconst (hE := fe_54_58) (k := ?_)
            refine mj_b_goto (hE := fe_54_59) (k := ?_)
            exact h63 true (by simp [dm_F, a_clg, h36, h44, h55])
/-- LockedTree.listBarredBelow -/
theorem g54 (p : Int32) (h : c_all sn sx pn px S H f w ms I R) (hl : (a_mul S (a_sub H.1) p).length ≤ 12) :
    mj_G pj_P 54 [.ref 1, .int p] (mz_SH L, I, R) (fun r => ∃ I', r = (none, (mz_SH L, I', R)) ∧ c_all sn sx pn px S H f w (a_mul S (a_sub H.1) p) I' R ∧ fr_C I I') := by
  have h1 := sh_1 L
  refine mj_enter in_54 (L := [.ref 1, .int p, .retAddr 0, .retAddr 0, .retAddr 0]) rfl ?_
  refine mj_b_rload_n (hE := fe_54_0) (hv := rfl) (k := ?_)
  refine mj_b_iconst (hE := fe_54_1) (k := ?_)
  refine mj_b_putI (hE := fe_54_2) (hw := Or.inl rfl) (hM := by assumption) (k := ?_)
  refine mj_b_iconst (hE := fe_54_5) (k := ?_)
  refine mj_b_istore_n (hE := fe_54_6) (hx := Nat.le_of_ble_eq_true rfl) (k := ?_)
  refine l54 (I0 := I) hl ?_ S.1.length 0 _ _ _ (by omega) h.ms0 (fr_C.u (by omega) (by omega))
  intro I1 Lc hc hf
  exact mj_b_retV (hE := fe_54_108) (hi := in_54) ⟨I1, rfl, hc, hf⟩
theorem g56' (x : Int32) (h : c_all sn sx pn px S H f w ms I R) : mj_G pj_P 56 [.ref 1, .int x] (mz_SH L, I, R) (fun s => s = (some (.int (pz (a_led ms x))), (mz_SH L, I, R))) := by
  have := g56 (L := L) x h.1 h.2.2.2.2.2.2.2.1.1 h.2.2.2.2.2.2.2.1.2
  rw [pa_any_list ms 0 (g := fun m => pf_within m x)] at this
  · exact this
  · intro j v hj
    rw [Nat.zero_add, h.2.2.2.2.2.2.2.2 j v hj]
def dl_rows (S : ty_st) (ms : List Int32) (p : Int32) (i : Nat) : List ty_rw := S.1.filter (fun r => !((S.1.take i).any (fun x => a_gos ms p x && pf_within r.1 x.1)))
set_option maxHeartbeats 2000000 in
theorem l52 {p rr : Int32} {Q : Option Value × mj_H → Prop}
    (hk : ∀ px1 I1 R1 v3 v4, c_all sn sx pn px1 S H f w ms I1 R1 → cs_rep sx px1 (dl_rows S ms p S.1.length, S.2) I1 R1 → fr_C I0 I1 → fr_C R0 R1 → mj_T pj_P 52 108 [.ref 1, .int p, .int rr, v3, v4] [] (mz_SH L, I1, R1) Q) :
    ∀ (k i : Nat) (px1 : Nat → Nat) (I1 : Nat → Nat → Int32) (R1 : Nat → Nat → Option Nat) (v4 : Value), i + k = S.1.length → c_all sn sx pn px1 S H f w ms I1 R1 → cs_rep sx px1 (dl_rows S ms p i, S.2) I1 R1 → fr_C I0 I1 → fr_C R0 R1 → mj_T pj_P 52 50 [.ref 1, .int p, .int rr, .int (nI i), v4] [] (mz_SH L, I1, R1) Q := by
  have h1 := sh_1 L
  intro k
  induction k with
  | zero =>
    intro i px1 I1 R1 v4 hi hc hx fI fR
    have hin : i = S.1.length := by omega
    subst hin
    have t1 := hc.1.1
    have hSn := sh_S L hc.2.2.1.1
    have hn := hc.2.2.1.2.2.1.1
    refine mj_b_iload_n (hE := fe_52_50) (hv := rfl) (k := ?_)
    refine mj_b_rload_n (hE := fe_52_51) (hv := rfl) (k := ?_)
    refine mj_b_getQ (hE := fe_52_52) (hM := by assumption) (hv := by assumption) (k := ?_)
    refine mj_b_getV (hE := fe_52_55) (hM := by assumption) (hv := by assumption) (k := ?_)
    refine mj_b_if2 (hE := fe_52_58) (kt := fun g => ?_) (kf := fun g => ?_)
    · exact hk _ _ _ _ _ hc hx fI fR
    · simp [mj_cnd] at g
  | succ k ih =>
    intro i px1 I1 R1 v4 hi hc hx fI fR
    have t1 := hc.1.1
    have t2 := hc.1.2.1
    have hs := hc.2.2.1
    have hSn := sh_S L hs.1
    have hSx := sh_S L hx.1
    have hA := sh_A L hs.1
    obtain ⟨hn, hn13⟩ := hs.2.2.1
    have hi13 : i < 13 := by omega
    have hlt : i < S.1.length := by omega
    have hR := hs.2.1.1
    obtain ⟨hr1, hr2⟩ := hs.2.1.2.2.1 i hi13
    have hC := sh_R L hs.1 hr2
    have hp0 : I1 (sn + 3 + 2 * pn i) 0 = (S.1[i]).1 := hs.path (List.getElem?_eq_getElem hlt)
    have htk : S.1.take (i + 1) = S.1.take i ++ [S.1[i]] := by rw [List.take_append_getElem hlt]
    have hst : dl_rows S ms p (i + 1) = if a_gos ms p S.1[i] = true then (dl_rows S ms p i).filter (ar_out (S.1[i]).1) else dl_rows S ms p i := by
      unfold dl_rows
      rw [htk, del_step]
    have hnx : ∀ px2 I2 R2 v4, c_all sn sx pn px2 S H f w ms I2 R2 → cs_rep sx px2 (dl_rows S ms p (i + 1), S.2) I2 R2 → fr_C I0 I2 → fr_C R0 R2 → mj_T pj_P 52 102 [.ref 1, .int p, .int rr, .int (nI i), v4] [] (mz_SH L, I2, R2) Q := by
      intro px2 I2 R2 v4 hc2 hx2 fI2 fR2
      refine mj_b_iinc (hE := fe_52_102) (hv := rfl) (k := ?_)
      refine mj_b_goto (hE := fe_52_105) (k := ?_)
      exact (show mj_T pj_P 52 50 [.ref 1, .int p, .int rr, .int (nI i + 1), v4] [] (mz_SH L, I2, R2) Q from (nI_succ i) ▸ ih (i + 1) px2 I2 R2 v4 (by omega) hc2 hx2 fI2 fR2)
    refine mj_b_iload_n (hE := fe_52_50) (hv := rfl) (k := ?_)
    refine mj_b_rload_n (hE := fe_52_51) (hv := rfl) (k := ?_)
    refine mj_b_getQ (hE := fe_52_52) (hM := by assumption) (hv := by assumption) (k := ?_)
    refine mj_b_getV (hE := fe_52_55) (hM := by assumption) (hv := by assumption) (k := ?_)
    refine mj_b_if2 (hE := fe_52_58) (kt := fun g => ?_) (kf := fun g => ?_)
    · simp only [mj_cnd, decide_eq_true_eq] at g
      exact absurd g (nI_ge (by omega) (by omega))
    · refine mj_b_rload_n (hE := fe_52_61) (hv := rfl) (k := ?_)
      refine mj_b_getQ (hE := fe_52_62) (hM := by assumption) (hv := by assumption) (k := ?_)
      refine mj_b_getQ (hE := fe_52_65) (hM := by assumption) (hv := by assumption) (k := ?_)
      refine mj_b_iload_n (hE := fe_52_68) (hv := rfl) (k := ?_)
      refine mj_b_aaldQ (hE := fe_52_69) (hM := by assumption) (ht := by decide) (hj := rfl) (hc := by omega) (hn := by decide) (hv := by assumption) (k := ?_)
      refine mj_b_getV (hE := fe_52_70) (hM := by assumption) (hv := by assumption) (k := ?_)
      refine mj_b_istore (hE := fe_52_73) (hx := Nat.le_of_ble_eq_true rfl) (k := ?_)
      refine mj_b_iload (hE := fe_52_75) (hv := rfl) (k := ?_)
      refine mj_b_iload_n (hE := fe_52_77) (hv := rfl) (k := ?_)
      refine mj_b_callR (hE := fe_52_78) (hi := in_55) (h1 := g55 _ _ _) (hc := mj_cok_s rfl) (ha := rfl) (hr := rfl) ?_
      refine mj_b_if1 (hE := fe_52_81) (kt := fun q => ?_) (kf := fun q => ?_)
      · simp only [mj_cnd, decide_eq_true_eq, pz_0] at q
        refine hnx _ _ _ _ hc ?_ fI fR
        rw [hst, if_neg (by simp [a_gos, q])]
        exact hx
      · simp only [mj_cnd, decide_eq_false_iff_not, pz_0, Bool.not_eq_false] at q
        refine mj_b_rload_n (hE := fe_52_84) (hv := rfl) (k := ?_)
        refine mj_b_iload (hE := fe_52_85) (hv := rfl) (k := ?_)
        refine mj_b_callR (hE := fe_52_87) (hi := in_56) (h1 := g56' _ hc) (hc := mj_cok_v rfl rfl h1) (ha := rfl) (hr := rfl) ?_
        refine mj_b_if1 (hE := fe_52_90) (kt := fun m => ?_) (kf := fun m => ?_)
        · simp only [mj_cnd, Bool.not_eq_true', decide_eq_false_iff_not, pz_0, Bool.not_eq_false] at m
          refine hnx _ _ _ _ hc ?_ fI fR
          rw [hst, if_neg (by simp [a_gos, m])]
          exact hx
        · simp only [mj_cnd, Bool.not_eq_false', decide_eq_true_eq, pz_0] at m
          refine mj_b_rload_n (hE := fe_52_93) (hv := rfl) (k := ?_)
          refine mj_b_getQ (hE := fe_52_94) (hM := by assumption) (hv := by assumption) (k := ?_)
          refine mj_b_iload (hE := fe_52_97) (hv := rfl) (k := ?_)
          refine mj_b_call (hE := fe_52_99) (hi := in_57) (h1 := g57 _ hx) (hc := mj_cok_v rfl rfl hSx) (ha := rfl) (hr := rfl) ?_
          rintro v' M1 ⟨px2, I2, R2, hM, hx2, f2, fR2⟩
          cases hM
          refine hnx _ _ _ _ (hc.fr f2 fR2 hx2.2.1) ?_ (fI.trans (f2.C hx.1)) (fR.trans (fR2.C hx.1))
          rw [hst, if_pos (by simp [a_gos, q, m])]
          exact hx2
theorem a_delR_ok {rs : List ty_rw} {ls : List ty_lk} {sub : Int32 → Bool} {p : Int32} (h : a_delR rs ls sub p = -1) : p ≠ 0 ∧ ar_has rs p = true := by
  unfold a_delR at h
  split at h
  · exact absurd h (by decide)
  · rename_i h1
    split at h
    · exact absurd h (by decide)
    · rename_i h2
      exact ⟨h1, by simpa using h2⟩
theorem a_mul_len {sub : Int32 → Bool} {p : Int32} (hp : pf_path p = true) (hh : ar_has S.1 p = true) (hl : S.1.length ≤ 13) : (a_mul S sub p).length ≤ 12 := by
  unfold a_mul
  rw [List.length_map]
  obtain ⟨r, hr, e⟩ := ar_has_iff.mp hh
  have h2 : (S.1.filter (fun r => pf_below r.1 p && a_clg S.2.1 sub r.1)).length < S.1.length := by
    rcases Nat.lt_or_ge (S.1.filter (fun r => pf_below r.1 p && a_clg S.2.1 sub r.1)).length S.1.length with h | h
    · exact h
    · have h3 := List.length_filter_eq_length_iff.mp (Nat.le_antisymm (List.length_filter_le _ _) h) r hr
      rw [e, pw_irr hp] at h3
      simp at h3
  omega
def o_del (S : ty_st) (H : ty_hd) (f w : Int32) (ms : List Int32) (p : Int32) : ty_oc :=
  o_ans S w ms (a_two (a_fstR S.1 S.2.1 H p (pf_path p)) (a_delR S.1 S.2.1 (a_sub H.1) p)) (o_car S f w (a_mul S (a_sub H.1) p) (x_del S (a_sub H.1) p) (if a_mul S (a_sub H.1) p = [] then 204 else 207))
set_option maxHeartbeats 2000000 in
/-- LockedTree.delete -/
theorem g52 (p : Int32) (hw : wf_st n S) (h : c_all sn sx pn px S H f w ms I R) :
    mj_G pj_P 52 [.ref 1, .int p] (mz_SH L, I, R) (o_post L I R H (o_del S H f w ms p)) := by
  have h1 := sh_1 L
  have hsx : sx = 2 ∨ sx = 37 := by have := h.2.1; omega
  have hne : sx ≠ sn := by have := h.2.1; omega
  have hSx := sh_S L hsx
  obtain ⟨w1, w2, w3, -⟩ := hw.1
  have h21 : ∀ rr : Int32, rr = a_two (a_fstR S.1 S.2.1 H p (pf_path p)) (a_delR S.1 S.2.1 (a_sub H.1) p) → mj_T pj_P 52 21 [.ref 1, .int p, .int rr, .retAddr 0, .retAddr 0] [] (mz_SH L, I, R) (o_post L I R H (o_del S H f w ms p)) := by
    intro rr hrr
    refine mj_b_iload_n (hE := fe_52_21) (hv := rfl) (k := ?_)
    refine mj_b_iconst (hE := fe_52_22) (k := ?_)
    refine mj_b_if2 (hE := fe_52_23) (kt := fun g => ?_) (kf := fun g => ?_)
    · simp only [mj_cnd, decide_eq_true_eq] at g
      rw [hrr] at g
      obtain ⟨g1, g2⟩ := a_two_ok g
      have hpp := a_fstR_ok g1
      obtain ⟨hp0, hh⟩ := a_delR_ok g2
      have hpo : o_del S H f w ms p = o_car S f w (a_mul S (a_sub H.1) p) (x_del S (a_sub H.1) p) (if a_mul S (a_sub H.1) p = [] then 204 else 207) := by unfold o_del o_ans; rw [if_pos g]
      rw [hpo]
      refine mj_b_rload_n (hE := fe_52_32) (hv := rfl) (k := ?_)
      refine mj_b_iload_n (hE := fe_52_33) (hv := rfl) (k := ?_)
      refine mj_b_call (hE := fe_52_34) (hi := in_54) (h1 := g54 p h (a_mul_len hpp hh w2)) (hc := mj_cok_v rfl rfl h1) (ha := rfl) (hr := rfl) ?_
      rintro v' M1 ⟨I1, hM, hc1, f1⟩
      cases hM
      have hmp : ∀ m ∈ a_mul S (a_sub H.1) p, pf_path m = true := by
        intro m hm
        unfold a_mul at hm
        obtain ⟨r, hr, e⟩ := List.mem_map.mp hm
        rw [← e]
        exact (w3 r (List.mem_filter.mp hr).1).1
      generalize hms : a_mul S (a_sub H.1) p = ms1 at hc1 hmp ⊢
      have t1 := hc1.1.1
      have t2 := hc1.1.2.1
      refine (show mj_T pj_P 52 37 [.ref 1, .int p, .int rr, .retAddr 0, .retAddr 0] [] (mz_SH L, I1, R) _ from ?_)
      refine mj_b_rload_n (hE := fe_52_37) (hv := rfl) (k := ?_)
      refine mj_b_getQ (hE := fe_52_38) (hM := by assumption) (hv := by assumption) (k := ?_)
      refine mj_b_rload_n (hE := fe_52_41) (hv := rfl) (k := ?_)
      refine mj_b_getQ (hE := fe_52_42) (hM := by assumption) (hv := by assumption) (k := ?_)
      refine mj_b_call (hE := fe_52_45) (hi := in_39) (h1 := g39 hsx hne hc1.2.2.2.1 hc1.2.2.1) (hc := mj_cok_v rfl rfl hSx) (ha := rfl) (hr := rfl) ?_
      rintro v' M1 ⟨I2, hM, hx, f2⟩
      cases hM
      have hc2 := hc1.fr f2 fr_R.refl hc1.2.2.2.1
      refine (show mj_T pj_P 52 48 [.ref 1, .int p, .int rr, .retAddr 0, .retAddr 0] [] (mz_SH L, I2, R) _ from ?_)
      refine mj_b_iconst (hE := fe_52_48) (k := ?_)
      refine mj_b_istore_n (hE := fe_52_49) (hx := Nat.le_of_ble_eq_true rfl) (k := ?_)
      refine l52 (ms := ms1) (I0 := I) (R0 := R) ?_ S.1.length 0 px I2 R _ (by omega) hc2 ?_ (f1.trans (f2.C hsx)) fr_C.refl
      · intro px1 I3 R3 v3 v4 hc3 hx3 fI3 fR3
        have hrows : dl_rows S ms1 p S.1.length = (x_del S (a_sub H.1) p).1 := by
          unfold dl_rows x_del
          rw [List.take_length, del_rows hpp (fun r hr => (w3 r hr).1) hmp, hms]
        rw [hrows] at hx3
        have h6 := hc3.2.2.2.2.2.2.2.1.1
        have h612 := hc3.2.2.2.2.2.2.2.1.2
        refine mj_b_rload_n (hE := fe_52_108) (hv := rfl) (k := ?_)
        refine mj_b_rload_n (hE := fe_52_109) (hv := rfl) (k := ?_)
        refine mj_b_getV (hE := fe_52_110) (hM := by assumption) (hv := by assumption) (k := ?_)
        refine mj_b_if1 (hE := fe_52_113) (kt := fun q => ?_) (kf := fun q => ?_)
        · simp only [mj_cnd, Bool.not_eq_true', decide_eq_false_iff_not] at q
          have : ms1 ≠ [] := by
            rintro rfl
            exact q rfl
          rw [if_neg this]
          refine mj_b_sipush (hE := fe_52_122) (k := ?_)
          exact q_carry fe_52_125 fe_52_128 in_52 hc3 hx3 fI3 fR3 207
        · simp only [mj_cnd, Bool.not_eq_false', decide_eq_true_eq] at q
          have : ms1 = [] := by
            rw [← List.length_eq_zero_iff]
            exact nI_inj (by omega) (by omega) q
          rw [if_pos this]
          refine mj_b_sipush (hE := fe_52_116) (k := ?_)
          refine mj_b_goto (hE := fe_52_119) (k := ?_)
          exact q_carry fe_52_125 fe_52_128 in_52 hc3 hx3 fI3 fR3 204
      · have : dl_rows S ms1 p 0 = S.1 := by unfold dl_rows; simp
        rw [this]
        exact hx
    · simp only [mj_cnd, decide_eq_false_iff_not] at g
      have hpo : o_del S H f w ms p = o_ref S w ms rr := by unfold o_del o_ans; rw [← hrr, if_neg g]
      rw [hpo]
      refine mj_b_rload_n (hE := fe_52_26) (hv := rfl) (k := ?_)
      refine mj_b_iload_n (hE := fe_52_27) (hv := rfl) (k := ?_)
      exact q_close fe_52_28 fe_52_31 in_52 h fr_C.refl fr_C.refl rr
  refine mj_enter in_52 (L := [.ref 1, .int p, .retAddr 0, .retAddr 0, .retAddr 0]) rfl ?_
  refine mj_b_rload_n (hE := fe_52_0) (hv := rfl) (k := ?_)
  refine mj_b_iload_n (hE := fe_52_1) (hv := rfl) (k := ?_)
  refine mj_b_iload_n (hE := fe_52_2) (hv := rfl) (k := ?_)
  refine mj_b_callR (hE := fe_52_3) (hi := in_14) (h1 := g14 _ _) (hc := mj_cok_s rfl) (ha := rfl) (hr := rfl) ?_
  refine mj_b_callR (hE := fe_52_6) (hi := in_19) (h1 := g19' h p (pf_path p)) (hc := mj_cok_v rfl rfl h1) (ha := rfl) (hr := rfl) ?_
  refine mj_b_istore_n (hE := fe_52_9) (hx := Nat.le_of_ble_eq_true rfl) (k := ?_)
  refine mj_b_iload_n (hE := fe_52_10) (hv := rfl) (k := ?_)
  refine mj_b_iconst (hE := fe_52_11) (k := ?_)
  refine mj_b_if2 (hE := fe_52_12) (kt := fun g => ?_) (kf := fun g => ?_)
  · simp only [mj_cnd, Bool.not_eq_true', decide_eq_false_iff_not] at g
    exact h21 _ (by unfold a_two; rw [if_neg g])
  · simp only [mj_cnd, Bool.not_eq_false', decide_eq_true_eq] at g
    refine mj_b_rload_n (hE := fe_52_15) (hv := rfl) (k := ?_)
    refine mj_b_iload_n (hE := fe_52_16) (hv := rfl) (k := ?_)
    refine mj_b_callR (hE := fe_52_17) (hi := in_53) (h1 := g53' h p) (hc := mj_cok_v rfl rfl h1) (ha := rfl) (hr := rfl) ?_
    refine mj_b_istore_n (hE := fe_52_20) (hx := Nat.le_of_ble_eq_true rfl) (k := ?_)
    exact h21 _ (by unfold a_two; rw [if_pos g])
end RE
