/-! ===== the class: a store takes another's contents; locks are added and dropped ===== -/
/-- a lock takes another's contents -/
def cl_tak (I : Nat → Nat → Int32) (a o : Nat) : Nat → Nat → Int32 := mj_u (mj_u (mj_u (mj_u (mj_u I a 0 (I o 0)) a 1 (I o 1)) a 2 (I o 2)) a 3 (I o 3)) a 4 (I o 4)
theorem cl_tak_off (I : Nat → Nat → Int32) (a o x j : Nat) (h : x ≠ a) : cl_tak I a o x j = I x j := by simp [cl_tak, mj_u, h]
theorem cl_tak_at {I : Nat → Nat → Int32} {a o : Nat} {l : ty_lk} (h : lk_at I o l) : lk_at (cl_tak I a o) a l := by
  obtain ⟨h0, h1, h2, h3, h4⟩ := h
  refine ⟨?_, ?_, ?_, ?_, ?_⟩ <;> simp [cl_tak, mj_u, h0, h1, h2, h3, h4]
theorem cr_tak_off (I : Nat → Nat → Int32) (a o x j : Nat) (h : x ≠ a) (h1 : x ≠ a + 1) : cr_tak I a o x j = I x j := by simp [cr_tak, h, h1]
theorem cr_tak_at (I : Nat → Nat → Int32) (a o : Nat) : rw_at (cr_tak I a o) a = rw_at I o := by simp [rw_at, cr_tak]
section CP
variable {L b o : Nat} {pi po : Nat → Nat} {S So : ty_st} {I : Nat → Nat → Int32} {R : Nat → Nat → Option Nat}
set_option maxHeartbeats 1000000 in
/-- Lock.takeFrom -/
theorem g41 {a q : Nat} {l : ty_lk} (hM : (mz_SH L)[a]? = some (3, 5)) (hMo : (mz_SH L)[q]? = some (3, 5)) (hl : lk_at I q l) :
    mj_G pj_P 41 [.ref a, .ref q] (mz_SH L, I, R) (fun r => r = (none, (mz_SH L, cl_tak I a q, R))) := by
  have h3 : I q 3 = 0 ∨ I q 3 = 1 := by rw [hl.2.2.2.1]; exact pz_01 _
  have h4 : I q 4 = 0 ∨ I q 4 = 1 := by rw [hl.2.2.2.2]; exact pz_01 _
  refine mj_enter in_41 (L := [.ref a, .ref q]) rfl ?_
  refine mj_b_rload_n (hE := fe_41_0) (hv := rfl) (k := ?_)
  refine mj_b_rload_n (hE := fe_41_1) (hv := rfl) (k := ?_)
  refine mj_b_getV (hE := fe_41_2) (v := I q 0) (hM := hMo) (hv := rfl) (k := ?_)
  refine mj_b_putI (hE := fe_41_5) (hw := Or.inl rfl) (hM := by assumption) (k := ?_)
  refine mj_b_rload_n (hE := fe_41_8) (hv := rfl) (k := ?_)
  refine mj_b_rload_n (hE := fe_41_9) (hv := rfl) (k := ?_)
  refine mj_b_getV (hE := fe_41_10) (v := I q 1) (hM := hMo) (hv := by simp [mj_u]) (k := ?_)
  refine mj_b_putI (hE := fe_41_13) (hw := Or.inl rfl) (hM := by assumption) (k := ?_)
  refine mj_b_rload_n (hE := fe_41_16) (hv := rfl) (k := ?_)
  refine mj_b_rload_n (hE := fe_41_17) (hv := rfl) (k := ?_)
  refine mj_b_getV (hE := fe_41_18) (v := I q 2) (hM := hMo) (hv := by simp [mj_u]) (k := ?_)
  refine mj_b_putI (hE := fe_41_21) (hw := Or.inl rfl) (hM := by assumption) (k := ?_)
  refine mj_b_rload_n (hE := fe_41_24) (hv := rfl) (k := ?_)
  refine mj_b_rload_n (hE := fe_41_25) (hv := rfl) (k := ?_)
  refine mj_b_getV (hE := fe_41_26) (v := I q 3) (hM := hMo) (hv := by simp [mj_u]) (k := ?_)
  refine mj_b_putI (hE := fe_41_29) (hw := Or.inr ⟨rfl, h3⟩) (hM := hM) (k := ?_)
  refine mj_b_rload_n (hE := fe_41_32) (hv := rfl) (k := ?_)
  refine mj_b_rload_n (hE := fe_41_33) (hv := rfl) (k := ?_)
  refine mj_b_getV (hE := fe_41_34) (v := I q 4) (hM := hMo) (hv := by simp [mj_u]) (k := ?_)
  refine mj_b_putI (hE := fe_41_37) (hw := Or.inr ⟨rfl, h4⟩) (hM := hM) (k := ?_)
  exact mj_b_retV (hE := fe_41_40) (hi := in_41) rfl
/-- the rows of b are those of o, up to i -/
def cp_inv (b o : Nat) (pi po : Nat → Nat) (So : ty_st) (I0 : Nat → Nat → Int32) (R : Nat → Nat → Option Nat) (i : Nat) (I : Nat → Nat → Int32) : Prop :=
  cs_rep o po So I R ∧ cs_ok b pi R ∧ fr_I b I0 I ∧ ∀ j r, j < i → So.1[j]? = some r → rw_at I (cs_row b pi j) = r
set_option maxHeartbeats 2000000 in
theorem l39a {I0 : Nat → Nat → Int32} {Q : Option Value × mj_H → Prop} (hb : b = 2 ∨ b = 37) (hbo : b ≠ o)
    (hk : ∀ I, cp_inv b o pi po So I0 R So.1.length I → mj_T pj_P 39 31 [.ref b, .ref o, .int (nI So.1.length)] [] (mz_SH L, I, R) Q) :
    ∀ (k i : Nat) (I : Nat → Nat → Int32), i + k = So.1.length → cp_inv b o pi po So I0 R i I → mj_T pj_P 39 2 [.ref b, .ref o, .int (nI i)] [] (mz_SH L, I, R) Q := by
  intro k
  induction k with
  | zero =>
    intro i I hi hv
    have hin : i = So.1.length := by omega
    subst hin
    have hv0 := hv
    obtain ⟨ho, hok, hf, hd⟩ := hv
    have hSo := sh_S L ho.1
    have hn := ho.2.2.1.1
    refine mj_b_iload_n (hE := fe_39_2) (hv := rfl) (k := ?_)
    refine mj_b_rload_n (hE := fe_39_3) (hv := rfl) (k := ?_)
    refine mj_b_getV (hE := fe_39_4) (hM := by assumption) (hv := by assumption) (k := ?_)
    refine mj_b_if2 (hE := fe_39_7) (kt := fun h => ?_) (kf := fun h => ?_)
    · exact hk I hv0
    · simp [mj_cnd] at h
  | succ k ih =>
    intro i I hi hv
    obtain ⟨ho, hok, hf, hd⟩ := hv
    have ho0 := ho
    obtain ⟨hob, hook, ⟨hn, hn13⟩, hol, hor, hrest⟩ := ho
    have hSo := sh_S L hob
    have hS := sh_S L hb
    have hA := sh_A L hb
    have hAo := sh_A L hob
    have hi13 : i < 13 := by omega
    have hR := hok.1
    have hRo := hook.1
    obtain ⟨hr1, hr2⟩ := hok.2.2.1 i hi13
    obtain ⟨hq1, hq2⟩ := hook.2.2.1 i hi13
    have hC := sh_R L hb hr2
    have hCp := sh_P L hb hr2
    have hD := sh_R L hob hq2
    have hDp := sh_P L hob hq2
    have hRp := hok.2.2.2.2.1 _ hr2
    have hRq := hook.2.2.2.2.1 _ hq2
    have e1 : b + 3 + 2 * pi i + 1 = b + 4 + 2 * pi i := by omega
    have e2 : o + 3 + 2 * po i + 1 = o + 4 + 2 * po i := by omega
    refine mj_b_iload_n (hE := fe_39_2) (hv := rfl) (k := ?_)
    refine mj_b_rload_n (hE := fe_39_3) (hv := rfl) (k := ?_)
    refine mj_b_getV (hE := fe_39_4) (hM := by assumption) (hv := by assumption) (k := ?_)
    refine mj_b_if2 (hE := fe_39_7) (kt := fun h => ?_) (kf := fun h => ?_)
    · simp only [mj_cnd, decide_eq_true_eq] at h
      exact absurd h (nI_ge (by omega) (by omega))
    · refine mj_b_rload_n (hE := fe_39_10) (hv := rfl) (k := ?_)
      refine mj_b_getQ (hE := fe_39_11) (hM := by assumption) (hv := by assumption) (k := ?_)
      refine mj_b_iload_n (hE := fe_39_14) (hv := rfl) (k := ?_)
      refine mj_b_aaldQ (hE := fe_39_15) (hM := by assumption) (ht := by decide) (hj := rfl) (hc := by omega) (hn := by decide) (hv := by assumption) (k := ?_)
      refine mj_b_rload_n (hE := fe_39_16) (hv := rfl) (k := ?_)
      refine mj_b_getQ (hE := fe_39_17) (hM := by assumption) (hv := by assumption) (k := ?_)
      refine mj_b_iload_n (hE := fe_39_20) (hv := rfl) (k := ?_)
      refine mj_b_aaldQ (hE := fe_39_21) (hM := by assumption) (ht := by decide) (hj := rfl) (hc := by omega) (hn := by decide) (hv := by assumption) (k := ?_)
      refine mj_b_callN (hE := fe_39_22) (hi := in_40) (h1 := g40 (a := b + 3 + 2 * pi i) (o := o + 3 + 2 * po i) hC (by rw [e1]; exact hCp) (by rw [e1]; exact hRp) hD (by rw [e2]; exact hDp) (by rw [e2]; exact hRq) (by omega) (by omega) (by omega)) (hc := mj_cok_v rfl rfl hC) (ha := rfl) (hr := rfl) ?_
      refine mj_b_iinc (hE := fe_39_25) (hv := rfl) (k := ?_)
      refine mj_b_goto (hE := fe_39_28) (k := ?_)
      have fI : fr_I b I (cr_tak I (b + 3 + 2 * pi i) (o + 3 + 2 * po i)) := fun x j q => cr_tak_off _ _ _ _ _ (by omega) (by omega)
      refine (show mj_T pj_P 39 2 [.ref b, .ref o, .int (nI i + 1)] [] (mz_SH L, _, R) Q from ?_)
      rw [← nI_succ]
      refine ih (i + 1) _ (by omega) ⟨ho0.fr hb (Ne.symm hbo) fI fr_R.refl, hok, hf.trans fI, ?_⟩
      intro j r hj hjr
      have hjl : j < So.1.length := (List.getElem?_eq_some_iff.mp hjr).1
      by_cases hji : j = i
      · subst hji
        rw [show cs_row b pi j = b + 3 + 2 * pi j from rfl, cr_tak_at]
        exact hor j r hjr
      · have hne : pi j ≠ pi i := fun e => hji (hok.2.2.2.2.2 j i (by omega) hi13 e)
        rw [rw_at_eq (I := I)]
        · exact hd j r (by omega) hjr
        · intro k; exact cr_tak_off _ _ _ _ _ (by unfold cs_row; omega) (by unfold cs_row; omega)
        · intro k; exact cr_tak_off _ _ _ _ _ (by unfold cs_row; omega) (by unfold cs_row; omega)
/-- and the locks up to i -/
def cq_inv (b o : Nat) (pi po : Nat → Nat) (So : ty_st) (I0 : Nat → Nat → Int32) (R : Nat → Nat → Option Nat) (i : Nat) (I : Nat → Nat → Int32) : Prop :=
  cp_inv b o pi po So I0 R So.1.length I ∧ I b 1 = nI So.1.length ∧ ∀ j l, j < i → So.2.1[j]? = some l → lk_at I (b + 29 + j) l
set_option maxHeartbeats 2000000 in
theorem l39b {I0 : Nat → Nat → Int32} {Q : Option Value × mj_H → Prop} (hb : b = 2 ∨ b = 37) (hbo : b ≠ o)
    (hk : ∀ I, cq_inv b o pi po So I0 R So.2.1.length I → mj_T pj_P 39 70 [.ref b, .ref o, .int (nI So.2.1.length)] [] (mz_SH L, I, R) Q) :
    ∀ (k i : Nat) (I : Nat → Nat → Int32), i + k = So.2.1.length → cq_inv b o pi po So I0 R i I → mj_T pj_P 39 41 [.ref b, .ref o, .int (nI i)] [] (mz_SH L, I, R) Q := by
  intro k
  induction k with
  | zero =>
    intro i I hi hv
    have hin : i = So.2.1.length := by omega
    subst hin
    have hv0 := hv
    obtain ⟨⟨ho, hok, hf, hd⟩, hn1, hl⟩ := hv
    have hSo := sh_S L ho.1
    have hn := ho.2.2.2.1.1
    refine mj_b_iload_n (hE := fe_39_41) (hv := rfl) (k := ?_)
    refine mj_b_rload_n (hE := fe_39_42) (hv := rfl) (k := ?_)
    refine mj_b_getV (hE := fe_39_43) (hM := by assumption) (hv := by assumption) (k := ?_)
    refine mj_b_if2 (hE := fe_39_46) (kt := fun h => ?_) (kf := fun h => ?_)
    · exact hk I hv0
    · simp [mj_cnd] at h
  | succ k ih =>
    intro i I hi hv
    obtain ⟨⟨ho, hok, hf, hd⟩, hn1, hl⟩ := hv
    have ho0 := ho
    obtain ⟨hob, hook, hol, ⟨hn, hn6⟩, hor, hlk, hrest⟩ := ho
    have hSo := sh_S L hob
    have hS := sh_S L hb
    have hA := sh_K L hb
    have hAo := sh_K L hob
    have hi6 : i < 6 := by omega
    have hR := hok.2.1
    have hRo := hook.2.1
    have hr1 := hok.2.2.2.1 i hi6
    have hq1 := hook.2.2.2.1 i hi6
    have hC := sh_L L hb hi6
    have hD := sh_L L hob hi6
    have hlt : i < So.2.1.length := by omega
    have hli := hlk i _ (List.getElem?_eq_getElem hlt)
    refine mj_b_iload_n (hE := fe_39_41) (hv := rfl) (k := ?_)
    refine mj_b_rload_n (hE := fe_39_42) (hv := rfl) (k := ?_)
    refine mj_b_getV (hE := fe_39_43) (hM := by assumption) (hv := by assumption) (k := ?_)
    refine mj_b_if2 (hE := fe_39_46) (kt := fun h => ?_) (kf := fun h => ?_)
    · simp only [mj_cnd, decide_eq_true_eq] at h
      exact absurd h (nI_ge (by omega) (by omega))
    · refine mj_b_rload_n (hE := fe_39_49) (hv := rfl) (k := ?_)
      refine mj_b_getQ (hE := fe_39_50) (hM := by assumption) (hv := by assumption) (k := ?_)
      refine mj_b_iload_n (hE := fe_39_53) (hv := rfl) (k := ?_)
      refine mj_b_aaldQ (hE := fe_39_54) (hM := by assumption) (ht := by decide) (hj := rfl) (hc := by omega) (hn := by decide) (hv := by assumption) (k := ?_)
      refine mj_b_rload_n (hE := fe_39_55) (hv := rfl) (k := ?_)
      refine mj_b_getQ (hE := fe_39_56) (hM := by assumption) (hv := by assumption) (k := ?_)
      refine mj_b_iload_n (hE := fe_39_59) (hv := rfl) (k := ?_)
      refine mj_b_aaldQ (hE := fe_39_60) (hM := by assumption) (ht := by decide) (hj := rfl) (hc := by omega) (hn := by decide) (hv := by assumption) (k := ?_)
      refine mj_b_callN (hE := fe_39_61) (hi := in_41) (h1 := g41 (a := b + 29 + i) (q := o + 29 + i) hC hD hli) (hc := mj_cok_v rfl rfl hC) (ha := rfl) (hr := rfl) ?_
      refine mj_b_iinc (hE := fe_39_64) (hv := rfl) (k := ?_)
      refine mj_b_goto (hE := fe_39_67) (k := ?_)
      have fI : fr_I b I (cl_tak I (b + 29 + i) (o + 29 + i)) := fun x j q => cl_tak_off _ _ _ _ _ (by omega)
      refine (show mj_T pj_P 39 41 [.ref b, .ref o, .int (nI i + 1)] [] (mz_SH L, _, R) Q from ?_)
      rw [← nI_succ]
      refine ih (i + 1) _ (by omega) ⟨⟨ho0.fr hb (Ne.symm hbo) fI fr_R.refl, hok, hf.trans fI, ?_⟩, ?_, ?_⟩
      · intro j r hj hjr
        have := (hok.2.2.1 j (by omega)).2
        rw [rw_at_eq (I := I)]
        · exact hd j r hj hjr
        · intro k; exact cl_tak_off _ _ _ _ _ (by unfold cs_row; omega)
        · intro k; exact cl_tak_off _ _ _ _ _ (by unfold cs_row; omega)
      · rw [cl_tak_off _ _ _ _ _ (by omega)]; exact hn1
      · intro j l hj hjl
        by_cases hji : j = i
        · subst hji
          exact cl_tak_at (hlk j l hjl)
        · exact lk_at_eq (fun k => cl_tak_off _ _ _ _ _ (by omega)) (hl j l (by omega) hjl)
set_option maxHeartbeats 2000000 in
/-- Store.takeFrom -/
theorem g39 (hb : b = 2 ∨ b = 37) (hbo : b ≠ o) (hok : cs_ok b pi R) (ho : cs_rep o po So I R) :
    mj_G pj_P 39 [.ref b, .ref o] (mz_SH L, I, R) (fun r => ∃ I', r = (none, (mz_SH L, I', R)) ∧ cs_rep b pi So I' R ∧ fr_I b I I') := by
  refine mj_enter in_39 (L := [.ref b, .ref o, .retAddr 0]) rfl ?_
  refine mj_b_iconst (hE := fe_39_0) (k := ?_)
  refine mj_b_istore_n (hE := fe_39_1) (hx := Nat.le_of_ble_eq_true rfl) (k := ?_)
  refine l39a (pi := pi) (po := po) (So := So) (I0 := I) hb hbo ?_ So.1.length 0 I (by omega) ⟨ho, hok, fr_I.refl, fun j r hj => absurd hj (by omega)⟩
  intro J hJ
  have hS := sh_S L hb
  have hSo := sh_S L ho.1
  have hJ1 := hJ.1.2.2.1.1
  have hob := ho.1
  refine mj_b_rload_n (hE := fe_39_31) (hv := rfl) (k := ?_)
  refine mj_b_rload_n (hE := fe_39_32) (hv := rfl) (k := ?_)
  refine mj_b_getV (hE := fe_39_33) (hM := by assumption) (hv := by assumption) (k := ?_)
  refine mj_b_putI (hE := fe_39_36) (hw := Or.inl rfl) (hM := by assumption) (k := ?_)
  refine mj_b_iconst (hE := fe_39_39) (k := ?_)
  refine mj_b_istore_n (hE := fe_39_40) (hx := Nat.le_of_ble_eq_true rfl) (k := ?_)
  have fI : fr_I b J (mj_u J b 1 (nI So.1.length)) := fr_I.u (by omega) (by omega)
  refine l39b (pi := pi) (po := po) (So := So) (I0 := I) hb hbo ?_ So.2.1.length 0 _ (by omega) ⟨⟨hJ.1.fr hb (Ne.symm hbo) fI fr_R.refl, hok, hJ.2.2.1.trans fI, ?_⟩, mj_u_self _ _ _ _, fun j r hj => absurd hj (by omega)⟩
  · intro K hK
    obtain ⟨⟨kr, kok, kf, kd⟩, kn, kl⟩ := hK
    have e3 := kr.2.2.2.1.1
    have e4 := kr.2.2.2.2.2.2.1
    have e5 := kr.2.2.2.2.2.2.2.1
    have e6 := kr.2.2.2.2.2.2.2.2
    have hne : o ≠ b := Ne.symm hbo
    refine mj_b_rload_n (hE := fe_39_70) (hv := rfl) (k := ?_)
    refine mj_b_rload_n (hE := fe_39_71) (hv := rfl) (k := ?_)
    refine mj_b_getV (hE := fe_39_72) (v := nI So.2.1.length) (hM := hSo) (hv := e3) (k := ?_)
    refine mj_b_putI (hE := fe_39_75) (hw := Or.inl rfl) (hM := by assumption) (k := ?_)
    refine mj_b_rload_n (hE := fe_39_78) (hv := rfl) (k := ?_)
    refine mj_b_rload_n (hE := fe_39_79) (hv := rfl) (k := ?_)
    refine mj_b_getV (hE := fe_39_80) (v := So.2.2.1) (hM := hSo) (hv := by simp [mj_u, hne, e4]) (k := ?_)
    refine mj_b_putI (hE := fe_39_83) (hw := Or.inl rfl) (hM := by assumption) (k := ?_)
    refine mj_b_rload_n (hE := fe_39_86) (hv := rfl) (k := ?_)
    refine mj_b_rload_n (hE := fe_39_87) (hv := rfl) (k := ?_)
    refine mj_b_getV (hE := fe_39_88) (v := So.2.2.2.1) (hM := hSo) (hv := by simp [mj_u, hne, e5]) (k := ?_)
    refine mj_b_putI (hE := fe_39_91) (hw := Or.inl rfl) (hM := by assumption) (k := ?_)
    refine mj_b_rload_n (hE := fe_39_94) (hv := rfl) (k := ?_)
    refine mj_b_rload_n (hE := fe_39_95) (hv := rfl) (k := ?_)
    refine mj_b_getV (hE := fe_39_96) (v := So.2.2.2.2) (hM := hSo) (hv := by simp [mj_u, hne, e6]) (k := ?_)
    refine mj_b_putI (hE := fe_39_99) (hw := Or.inl rfl) (hM := by assumption) (k := ?_)
    refine mj_b_retV (hE := fe_39_102) (hi := in_39) ⟨_, rfl, ?_, ?_⟩
    · refine ⟨hb, hok, ⟨?_, kr.2.2.1.2⟩, ⟨?_, kr.2.2.2.1.2⟩, ?_, ?_, ?_, ?_, ?_⟩
      · simp [mj_u, kn]
      · simp [mj_u]
      · intro i r hi
        have hlt : i < So.1.length := (List.getElem?_eq_some_iff.mp hi).1
        rw [rw_at_eq (I := K)]
        · exact kd i r hlt hi
        · intro k; have : cs_row b pi i ≠ b := by unfold cs_row; omega
          simp [mj_u, this]
        · intro k; have : cs_row b pi i + 1 ≠ b := by unfold cs_row; omega
          simp [mj_u, this]
      · intro i l hi
        have hlt : i < So.2.1.length := (List.getElem?_eq_some_iff.mp hi).1
        refine lk_at_eq (I := K) (fun k => ?_) (kl i l hlt hi)
        have : b + 29 + i ≠ b := by omega
        simp [mj_u, this]
      · simp [mj_u]
      · simp [mj_u]
      · simp [mj_u]
    · intro x j hx
      have : x ≠ b := by omega
      simp only [mj_u, this, false_and, if_false]
      exact kf x j hx
  · intro j r hj hjr
    rw [rw_at_eq (I := J)]
    · exact hJ.2.2.2 j r hj hjr
    · intro k; exact mj_u_na _ _ _ _ (by unfold cs_row; omega)
    · intro k; exact mj_u_na _ _ _ _ (by unfold cs_row; omega)
end CP
