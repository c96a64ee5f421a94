/-! ===== the class: what has changed ===== -/
section CH
variable {L b o sn sx nr nl nr' nl' mc : Nat} {pi pi' : Nat → Nat} {ex dp ex' dp' : Nat → Bool} {I : Nat → Nat → Int32} {R : Nat → Nat → Option Nat}
set_option maxHeartbeats 1000000 in
theorem l56 {p : Int32} (ht : c_top sn sx R) (hm : I 1 6 = nI mc) (hm12 : mc ≤ 12) :
    ∀ (k i : Nat), i + k = mc → mj_T pj_P 56 2 [.ref 1, .int p, .int (nI i)] [] (mz_SH L, I, R) (fun s => s = (some (.int (pz (pa_any (fun i => pf_within (I 86 i) p) i k))), (mz_SH L, I, R))) := by
  have h1 := sh_1 L
  have h86 := sh_86 L
  obtain ⟨ht1, ht2, ht3, ht4⟩ := ht
  intro k
  induction k with
  | zero =>
    intro i hi
    have hin : i = mc := by omega
    subst hin
    refine mj_b_iload_n (hE := fe_56_2) (hv := rfl) (k := ?_)
    refine mj_b_rload_n (hE := fe_56_3) (hv := rfl) (k := ?_)
    refine mj_b_getV (hE := fe_56_4) (hM := by assumption) (hv := by assumption) (k := ?_)
    refine mj_b_if2 (hE := fe_56_7) (kt := fun h => ?_) (kf := fun h => ?_)
    · refine mj_b_iconst (hE := fe_56_31) (k := ?_)
      exact mj_b_retZ (hE := fe_56_32) (hi := in_56) (Or.inl rfl) rfl
    · simp [mj_cnd] at h
  | succ k ih =>
    intro i hi
    have hnx : ∀ Q, mj_T pj_P 56 2 [.ref 1, .int p, .int (nI (i + 1))] [] (mz_SH L, I, R) Q → mj_T pj_P 56 25 [.ref 1, .int p, .int (nI i)] [] (mz_SH L, I, R) Q := by
      intro Q hQ
      refine mj_b_iinc (hE := fe_56_25) (hv := rfl) (k := ?_)
      refine mj_b_goto (hE := fe_56_28) (k := ?_)
      exact (show mj_T pj_P 56 2 [.ref 1, .int p, .int (nI i + 1)] [] (mz_SH L, I, R) Q from (nI_succ i) ▸ hQ)
    refine mj_b_iload_n (hE := fe_56_2) (hv := rfl) (k := ?_)
    refine mj_b_rload_n (hE := fe_56_3) (hv := rfl) (k := ?_)
    refine mj_b_getV (hE := fe_56_4) (hM := by assumption) (hv := by assumption) (k := ?_)
    refine mj_b_if2 (hE := fe_56_7) (kt := fun h => ?_) (kf := fun h => ?_)
    · simp only [mj_cnd, decide_eq_true_eq] at h
      exact absurd h (nI_ge (by omega) (by omega))
    · refine mj_b_rload_n (hE := fe_56_10) (hv := rfl) (k := ?_)
      refine mj_b_getQ (hE := fe_56_11) (hM := by assumption) (hv := by assumption) (k := ?_)
      refine mj_b_iload_n (hE := fe_56_14) (hv := rfl) (k := ?_)
      refine mj_b_ialdN (hE := fe_56_15) (hM := by assumption) (ht := Or.inr rfl) (hj := rfl) (hc := by omega) (hn := by decide) (hv := rfl) (k := ?_)
      refine mj_b_iload_n (hE := fe_56_16) (hv := rfl) (k := ?_)
      refine mj_b_callR (hE := fe_56_17) (hi := in_55) (h1 := g55 _ _ _) (hc := mj_cok_s rfl) (ha := rfl) (hr := rfl) ?_
      refine mj_b_if1 (hE := fe_56_20) (kt := fun h20 => ?_) (kf := fun h20 => ?_)
      · simp only [mj_cnd, decide_eq_true_eq, decide_eq_false_iff_not, Bool.not_eq_true', Bool.not_eq_false', pz_0, Bool.not_eq_false, Bool.not_eq_true] at h20
        exact hnx _ ((ih (i + 1) (by omega)).mono (fun s hs => by rw [hs]; simp [pa_any, h20]))
      · simp only [mj_cnd, decide_eq_true_eq, decide_eq_false_iff_not, Bool.not_eq_true', Bool.not_eq_false', pz_0, Bool.not_eq_false, Bool.not_eq_true] at h20
        refine mj_b_iconst (hE := fe_56_23) (k := ?_)
        exact mj_b_retZ (hE := fe_56_24) (hi := in_56) (by first | decide | exact pz_01 _) (by first | (simp [pa_any, pz, h20]; done) | (simp_all [pa_any, pz]; done) | rfl)
/-- LockedTree.leadsToListed -/
theorem g56 (p : Int32) (ht : c_top sn sx R) (hm : I 1 6 = nI mc) (hm12 : mc ≤ 12) :
    mj_G pj_P 56 [.ref 1, .int p] (mz_SH L, I, R) (fun s => s = (some (.int (pz (pa_any (fun i => pf_within (I 86 i) p) 0 mc))), (mz_SH L, I, R))) := by
  refine mj_enter in_56 (L := [.ref 1, .int p, .retAddr 0]) rfl ?_
  refine mj_b_iconst (hE := fe_56_0) (k := ?_)
  refine mj_b_istore_n (hE := fe_56_1) (hx := Nat.le_of_ble_eq_true rfl) (k := ?_)
  exact l56 ht hm hm12 mc 0 (by omega)
/-- a lock that is gone: no lock of b has the token of o's i-th -/
def cx_lg (I : Nat → Nat → Int32) (b o nl : Nat) (i : Nat) : Bool := (cl_fnd I b (I (o + 29 + i) 0) 0 nl).isNone
/-- a lock of b that o hasn't, or with another end -/
def cx_ln (I : Nat → Nat → Int32) (b o nl' : Nat) (i : Nat) : Bool := match cl_fnd I o (I (b + 29 + i) 0) 0 nl' with
  | none => true
  | some j => !decide (I (o + 29 + j) 2 = I (b + 29 + i) 2)
set_option maxHeartbeats 1000000 in
theorem l49b (hs : c_st b pi nr nl ex dp I R) (ho : c_st o pi' nr' nl' ex' dp' I R) :
    ∀ (k i : Nat) (c : Int32) (v4 : Value), i + k = nl' → mj_T pj_P 49 60 [.ref b, .ref o, .int c, .int (nI i), v4] [] (mz_SH L, I, R) (fun s => s = (some (.int (c + c_cnt (cx_lg I b o nl) i k)), (mz_SH L, I, R))) := by
  have hS := sh_S L hs.1
  have hSo := sh_S L ho.1
  have hA := sh_K L ho.1
  have hR := ho.2.1.2.1
  obtain ⟨hl1, hl2⟩ := ho.2.2.2.1
  intro k
  induction k with
  | zero =>
    intro i c v4 hi
    have hin : i = nl' := by omega
    subst hin
    refine mj_b_iload_n (hE := fe_49_60) (hv := rfl) (k := ?_)
    refine mj_b_rload_n (hE := fe_49_61) (hv := rfl) (k := ?_)
    refine mj_b_getV (hE := fe_49_62) (hM := by assumption) (hv := by assumption) (k := ?_)
    refine mj_b_if2 (hE := fe_49_65) (kt := fun h => ?_) (kf := fun h => ?_)
    · refine mj_b_iload_n (hE := fe_49_93) (hv := rfl) (k := ?_)
      exact mj_b_retI (hE := fe_49_94) (hi := in_49) (by simp [c_cnt])
    · simp [mj_cnd] at h
  | succ k ih =>
    intro i c v4 hi
    have hi6 : i < 6 := by omega
    have hr1 := ho.2.1.2.2.2.1 i hi6
    have hC := sh_L L ho.1 hi6
    have hnx : ∀ Q c, mj_T pj_P 49 60 [.ref b, .ref o, .int c, .int (nI (i + 1)), v4] [] (mz_SH L, I, R) Q → mj_T pj_P 49 87 [.ref b, .ref o, .int c, .int (nI i), v4] [] (mz_SH L, I, R) Q := by
      intro Q c hQ
      refine mj_b_iinc (hE := fe_49_87) (hv := rfl) (k := ?_)
      refine mj_b_goto (hE := fe_49_90) (k := ?_)
      exact (show mj_T pj_P 49 60 [.ref b, .ref o, .int c, .int (nI i + 1), v4] [] (mz_SH L, I, R) Q from (nI_succ i) ▸ hQ)
    refine mj_b_iload_n (hE := fe_49_60) (hv := rfl) (k := ?_)
    refine mj_b_rload_n (hE := fe_49_61) (hv := rfl) (k := ?_)
    refine mj_b_getV (hE := fe_49_62) (hM := by assumption) (hv := by assumption) (k := ?_)
    refine mj_b_if2 (hE := fe_49_65) (kt := fun h => ?_) (kf := fun h => ?_)
    · simp only [mj_cnd, decide_eq_true_eq] at h
      exact absurd h (nI_ge (by omega) (by omega))
    · refine mj_b_rload_n (hE := fe_49_68) (hv := rfl) (k := ?_)
      refine mj_b_rload_n (hE := fe_49_69) (hv := rfl) (k := ?_)
      refine mj_b_getQ (hE := fe_49_70) (hM := by assumption) (hv := by assumption) (k := ?_)
      refine mj_b_iload_n (hE := fe_49_73) (hv := rfl) (k := ?_)
      refine mj_b_aaldQ (hE := fe_49_74) (hM := by assumption) (ht := by decide) (hj := rfl) (hc := by omega) (hn := by decide) (hv := by assumption) (k := ?_)
      refine mj_b_getV (hE := fe_49_75) (hM := hC) (hv := rfl) (k := ?_)
      refine mj_b_callR (hE := fe_49_78) (hi := in_24) (h1 := g24 _ hs.1 hs.2.1 hs.2.2.2.1.1 hs.2.2.2.1.2) (hc := mj_cok_v rfl rfl hS) (ha := rfl) (hr := rfl) ?_
      refine mj_b_nnul (hE := fe_49_81) (kn := fun g => ?_) (ks := fun ga g => ?_)
      · simp only [Option.map_eq_none_iff] at g
        refine mj_b_iinc (hE := fe_49_84) (hv := rfl) (k := ?_)
        exact hnx _ _ ((ih (i + 1) _ v4 (by omega)).mono (fun s hs => by rw [hs]; simp [c_cnt, cx_lg, g, Int32.add_assoc]))
      · obtain ⟨j, hj, -⟩ := Option.map_eq_some_iff.mp g
        exact hnx _ _ ((ih (i + 1) _ v4 (by omega)).mono (fun s hs => by rw [hs]; simp [c_cnt, cx_lg, hj]))
set_option maxHeartbeats 1000000 in
theorem l49a (hs : c_st b pi nr nl ex dp I R) (ho : c_st o pi' nr' nl' ex' dp' I R) :
    ∀ (k i : Nat) (c : Int32) (v4 : Value), i + k = nl → mj_T pj_P 49 4 [.ref b, .ref o, .int c, .int (nI i), v4] [] (mz_SH L, I, R) (fun s => s = (some (.int (c + c_cnt (cx_ln I b o nl') i k + c_cnt (cx_lg I b o nl) 0 nl')), (mz_SH L, I, R))) := by
  have hS := sh_S L hs.1
  have hSo := sh_S L ho.1
  have hA := sh_K L hs.1
  have hR := hs.2.1.2.1
  obtain ⟨hl1, hl2⟩ := hs.2.2.2.1
  obtain ⟨ho1, ho2⟩ := ho.2.2.2.1
  intro k
  induction k with
  | zero =>
    intro i c v4 hi
    have hin : i = nl := by omega
    subst hin
    refine mj_b_iload_n (hE := fe_49_4) (hv := rfl) (k := ?_)
    refine mj_b_rload_n (hE := fe_49_5) (hv := rfl) (k := ?_)
    refine mj_b_getV (hE := fe_49_6) (hM := by assumption) (hv := by assumption) (k := ?_)
    refine mj_b_if2 (hE := fe_49_9) (kt := fun h => ?_) (kf := fun h => ?_)
    · refine mj_b_iconst (hE := fe_49_58) (k := ?_)
      refine mj_b_istore_n (hE := fe_49_59) (hx := Nat.le_of_ble_eq_true rfl) (k := ?_)
      exact (l49b hs ho nl' 0 c v4 (by omega)).mono (fun s hs => by rw [hs]; simp [c_cnt])
    · simp [mj_cnd] at h
  | succ k ih =>
    intro i c v4 hi
    have hi6 : i < 6 := by omega
    have hr1 := hs.2.1.2.2.2.1 i hi6
    have hC := sh_L L hs.1 hi6
    have hnx : ∀ Q c v4, mj_T pj_P 49 4 [.ref b, .ref o, .int c, .int (nI (i + 1)), v4] [] (mz_SH L, I, R) Q → mj_T pj_P 49 52 [.ref b, .ref o, .int c, .int (nI i), v4] [] (mz_SH L, I, R) Q := by
      intro Q c v4 hQ
      refine mj_b_iinc (hE := fe_49_52) (hv := rfl) (k := ?_)
      refine mj_b_goto (hE := fe_49_55) (k := ?_)
      exact (show mj_T pj_P 49 4 [.ref b, .ref o, .int c, .int (nI i + 1), v4] [] (mz_SH L, I, R) Q from (nI_succ i) ▸ hQ)
    refine mj_b_iload_n (hE := fe_49_4) (hv := rfl) (k := ?_)
    refine mj_b_rload_n (hE := fe_49_5) (hv := rfl) (k := ?_)
    refine mj_b_getV (hE := fe_49_6) (hM := by assumption) (hv := by assumption) (k := ?_)
    refine mj_b_if2 (hE := fe_49_9) (kt := fun h => ?_) (kf := fun h => ?_)
    · simp only [mj_cnd, decide_eq_true_eq] at h
      exact absurd h (nI_ge (by omega) (by omega))
    · refine mj_b_rload_n (hE := fe_49_12) (hv := rfl) (k := ?_)
      refine mj_b_rload_n (hE := fe_49_13) (hv := rfl) (k := ?_)
      refine mj_b_getQ (hE := fe_49_14) (hM := by assumption) (hv := by assumption) (k := ?_)
      refine mj_b_iload_n (hE := fe_49_17) (hv := rfl) (k := ?_)
      refine mj_b_aaldQ (hE := fe_49_18) (hM := by assumption) (ht := by decide) (hj := rfl) (hc := by omega) (hn := by decide) (hv := by assumption) (k := ?_)
      refine mj_b_getV (hE := fe_49_19) (hM := hC) (hv := rfl) (k := ?_)
      refine mj_b_callR (hE := fe_49_22) (hi := in_24) (h1 := g24 _ ho.1 ho.2.1 ho1 ho2) (hc := mj_cok_v rfl rfl hSo) (ha := rfl) (hr := rfl) ?_
      generalize hv : (cl_fnd I o (I (b + 29 + i) 0) 0 nl').map (fun i => o + 29 + i) = v
      refine mj_b_astore (hE := fe_49_25) (hx := Nat.le_of_ble_eq_true rfl) (k := ?_)
      refine mj_b_aload (hE := fe_49_27) (hv := rfl) (k := ?_)
      refine mj_b_nul (hE := fe_49_29) (kn := fun g => ?_) (ks := fun ga g => ?_)
      · subst g
        simp only [Option.map_eq_none_iff] at hv
        refine mj_b_iinc (hE := fe_49_49) (hv := rfl) (k := ?_)
        exact hnx _ _ _ ((ih (i + 1) _ _ (by omega)).mono (fun s hs => by rw [hs]; simp [c_cnt, cx_ln, hv, Int32.add_assoc]))
      · subst g
        obtain ⟨j, hj, hja⟩ := Option.map_eq_some_iff.mp hv
        have hlt := cl_fnd_lt _ _ hj
        have hCo := sh_L L ho.1 (show j < 6 by omega)
        subst hja
        refine mj_b_rload (hE := fe_49_32) (hv := rfl) (k := ?_)
        refine mj_b_getV (hE := fe_49_34) (hM := hCo) (hv := rfl) (k := ?_)
        refine mj_b_rload_n (hE := fe_49_37) (hv := rfl) (k := ?_)
        refine mj_b_getQ (hE := fe_49_38) (hM := by assumption) (hv := by assumption) (k := ?_)
        refine mj_b_iload_n (hE := fe_49_41) (hv := rfl) (k := ?_)
        refine mj_b_aaldQ (hE := fe_49_42) (hM := by assumption) (ht := by decide) (hj := rfl) (hc := by omega) (hn := by decide) (hv := by assumption) (k := ?_)
        refine mj_b_getV (hE := fe_49_43) (hM := hC) (hv := rfl) (k := ?_)
        refine mj_b_if2 (hE := fe_49_46) (kt := fun q => ?_) (kf := fun q => ?_)
        · simp only [mj_cnd, decide_eq_true_eq] at q
          exact hnx _ _ _ ((ih (i + 1) _ _ (by omega)).mono (fun s hs => by rw [hs]; simp [c_cnt, cx_ln, hj, q]))
        · simp only [mj_cnd, decide_eq_false_iff_not] at q
          refine mj_b_iinc (hE := fe_49_49) (hv := rfl) (k := ?_)
          exact hnx _ _ _ ((ih (i + 1) _ _ (by omega)).mono (fun s hs => by rw [hs]; simp [c_cnt, cx_ln, hj, q, Int32.add_assoc]))
/-- Store.lockChangesSince -/
theorem g49 (hs : c_st b pi nr nl ex dp I R) (ho : c_st o pi' nr' nl' ex' dp' I R) :
    mj_G pj_P 49 [.ref b, .ref o] (mz_SH L, I, R) (fun s => s = (some (.int (c_cnt (cx_ln I b o nl') 0 nl + c_cnt (cx_lg I b o nl) 0 nl')), (mz_SH L, I, R))) := by
  refine mj_enter in_49 (L := [.ref b, .ref o, .retAddr 0, .retAddr 0, .retAddr 0]) rfl ?_
  refine mj_b_iconst (hE := fe_49_0) (k := ?_)
  refine mj_b_istore_n (hE := fe_49_1) (hx := Nat.le_of_ble_eq_true rfl) (k := ?_)
  refine mj_b_iconst (hE := fe_49_2) (k := ?_)
  refine mj_b_istore_n (hE := fe_49_3) (hx := Nat.le_of_ble_eq_true rfl) (k := ?_)
  exact (l49a hs ho nl 0 0 _ (by omega)).mono (fun s hs => by rw [hs]; simp)
end CH
