/-! ===== the class: how many changes; a request is carried out ===== -/
/-- a row that the old list hasn't, or has otherwise -/
def a_chr (old : List ty_rw) (r : ty_rw) : Bool := match ar_get old r.1 with
  | none => true
  | some q => !decide (r.2 = q.2)
def a_gor (new : List ty_rw) (r : ty_rw) : Bool := !ar_has new r.1
def a_chl (old : List ty_lk) (l : ty_lk) : Bool := match al_get old l.1 with
  | none => true
  | some q => !decide (q.2.2.1 = l.2.2.1)
def a_gol (new : List ty_lk) (l : ty_lk) : Bool := (al_get new l.1).isNone
def a_chg (S So : ty_st) : Int32 := (if S.2.2.1 = So.2.2.1 then 0 else 1) + nI (S.1.countP (a_chr So.1)) + nI (So.1.countP (a_gor S.1)) + (nI (S.2.1.countP (a_chl So.2.1)) + nI (So.2.1.countP (a_gol S.2.1)))
theorem cr_lik_eq (I : Nat → Nat → Int32) (a o : Nat) : cr_lik I a o = decide ((rw_at I a).2 = (rw_at I o).2) := by
  simp only [cr_lik, rw_at, Prod.mk.injEq, Bool.decide_and]
theorem drop_get {α : Type} {l : List α} {i : Nat} (h : i < l.length) : l.drop i = l[i] :: l.drop (i + 1) := List.drop_eq_getElem_cons h
theorem i32_alc (a b c : Int32) : a + (b + c) = b + (a + c) := by rw [← Int32.add_assoc, Int32.add_comm a b, Int32.add_assoc]
section CY
variable {L b o sn sx : Nat} {pi po pn px : Nat → Nat} {S So Sx : ty_st} {H : ty_hd} {f w : Int32} {ms : List Int32} {I : Nat → Nat → Int32} {R : Nat → Nat → Option Nat}
theorem cs_rep.lfi (h : cs_rep b pi S I R) (t : Int32) : cl_fnd I b t 0 S.2.1.length = al_fi S.2.1 t := by
  rw [cl_fnd_list S.2.1 0]
  · simp
  · intro i l hi
    rw [Nat.zero_add]
    exact (h.2.2.2.2.2.1 i l hi).1
/-- Store.lockChangesSince -/
theorem g49' (h : cs_rep b pi S I R) (ho : cs_rep o po So I R) :
    mj_G pj_P 49 [.ref b, .ref o] (mz_SH L, I, R) (fun s => s = (some (.int (nI (S.2.1.countP (a_chl So.2.1)) + nI (So.2.1.countP (a_gol S.2.1)))), (mz_SH L, I, R))) := by
  have := g49 (L := L) h.st ho.st
  have e1 : c_cnt (cx_ln I b o So.2.1.length) 0 S.2.1.length = nI (S.2.1.countP (a_chl So.2.1)) := by
    refine c_cnt_list _ _ (fun j l hj => ?_)
    obtain ⟨l0, l1, l2, -⟩ := h.2.2.2.2.2.1 j l hj
    rw [Nat.zero_add]
    simp only [cx_ln, a_chl, l0, l2, ho.lfi]
    cases hf : al_fi So.2.1 l.1 with
    | none => rw [al_fi_getN hf]
    | some i =>
      obtain ⟨hi1, -⟩ := List.findIdx?_eq_some_iff_getElem.mp hf
      have hi2 : So.2.1[i]? = some So.2.1[i] := List.getElem?_eq_getElem hi1
      rw [← al_fi_get hf, hi2]
      simp only
      rw [(ho.2.2.2.2.2.1 i _ hi2).2.2.1]
  have e2 : c_cnt (cx_lg I b o S.2.1.length) 0 So.2.1.length = nI (So.2.1.countP (a_gol S.2.1)) := by
    refine c_cnt_list _ _ (fun j l hj => ?_)
    obtain ⟨l0, -⟩ := ho.2.2.2.2.2.1 j l hj
    rw [Nat.zero_add]
    simp only [cx_lg, a_gol, l0, h.lfi]
    cases hf : al_fi S.2.1 l.1 with
    | none => simp [al_fi_getN hf]
    | some i =>
      obtain ⟨hi1, -⟩ := List.findIdx?_eq_some_iff_getElem.mp hf
      rw [← al_fi_get hf, List.getElem?_eq_getElem hi1]
      rfl
  rw [e1, e2] at this
  exact this
set_option maxHeartbeats 1000000 in
theorem l47b (h : cs_rep b pi S I R) (ho : cs_rep o po So I R) :
    ∀ (k i : Nat) (c : Int32) (v4 : Value), i + k = So.1.length → mj_T pj_P 47 72 [.ref b, .ref o, .int c, .int (nI i), v4] [] (mz_SH L, I, R) (fun s => s = (some (.int (c + nI ((So.1.drop i).countP (a_gor S.1)) + (nI (S.2.1.countP (a_chl So.2.1)) + nI (So.2.1.countP (a_gol S.2.1))))), (mz_SH L, I, R))) := by
  have hS := sh_S L h.1
  have hSo := sh_S L ho.1
  have hAo := sh_A L ho.1
  have hRo := ho.2.1.1
  obtain ⟨ho1, ho2⟩ := ho.2.2.1
  intro k
  induction k with
  | zero =>
    intro i c v4 hi
    have hin : i = So.1.length := by omega
    subst hin
    refine mj_b_iload_n (hE := fe_47_72) (hv := rfl) (k := ?_)
    refine mj_b_rload_n (hE := fe_47_73) (hv := rfl) (k := ?_)
    refine mj_b_getV (hE := fe_47_74) (hM := by assumption) (hv := by assumption) (k := ?_)
    refine mj_b_if2 (hE := fe_47_77) (kt := fun g => ?_) (kf := fun g => ?_)
    · refine mj_b_iload_n (hE := fe_47_105) (hv := rfl) (k := ?_)
      refine mj_b_rload_n (hE := fe_47_106) (hv := rfl) (k := ?_)
      refine mj_b_rload_n (hE := fe_47_107) (hv := rfl) (k := ?_)
      refine mj_b_callR (hE := fe_47_108) (hi := in_49) (h1 := g49' h ho) (hc := mj_cok_v rfl rfl hS) (ha := rfl) (hr := rfl) ?_
      refine mj_b_iadd (hE := fe_47_111) (k := ?_)
      exact mj_b_retI (hE := fe_47_112) (hi := in_47) (by rw [List.drop_length]; simp; rfl)
    · simp [mj_cnd] at g
  | succ k ih =>
    intro i c v4 hi
    have hi13 : i < 13 := by omega
    have hlt : i < So.1.length := by omega
    obtain ⟨hr1, hr2⟩ := ho.2.1.2.2.1 i hi13
    have hC := sh_R L ho.1 hr2
    have hp0 : I (o + 3 + 2 * po i) 0 = (So.1[i]).1 := ho.path (List.getElem?_eq_getElem hlt)
    have hnx : ∀ Q c, mj_T pj_P 47 72 [.ref b, .ref o, .int c, .int (nI (i + 1)), v4] [] (mz_SH L, I, R) Q → mj_T pj_P 47 99 [.ref b, .ref o, .int c, .int (nI i), v4] [] (mz_SH L, I, R) Q := by
      intro Q c hQ
      refine mj_b_iinc (hE := fe_47_99) (hv := rfl) (k := ?_)
      refine mj_b_goto (hE := fe_47_102) (k := ?_)
      exact (show mj_T pj_P 47 72 [.ref b, .ref o, .int c, .int (nI i + 1), v4] [] (mz_SH L, I, R) Q from (nI_succ i) ▸ hQ)
    refine mj_b_iload_n (hE := fe_47_72) (hv := rfl) (k := ?_)
    refine mj_b_rload_n (hE := fe_47_73) (hv := rfl) (k := ?_)
    refine mj_b_getV (hE := fe_47_74) (hM := by assumption) (hv := by assumption) (k := ?_)
    refine mj_b_if2 (hE := fe_47_77) (kt := fun g => ?_) (kf := fun g => ?_)
    · simp only [mj_cnd, decide_eq_true_eq] at g
      exact absurd g (nI_ge (by omega) (by omega))
    · refine mj_b_rload_n (hE := fe_47_80) (hv := rfl) (k := ?_)
      refine mj_b_rload_n (hE := fe_47_81) (hv := rfl) (k := ?_)
      refine mj_b_getQ (hE := fe_47_82) (hM := by assumption) (hv := by assumption) (k := ?_)
      refine mj_b_iload_n (hE := fe_47_85) (hv := rfl) (k := ?_)
      refine mj_b_aaldQ (hE := fe_47_86) (hM := by assumption) (ht := by decide) (hj := rfl) (hc := by omega) (hn := by decide) (hv := by assumption) (k := ?_)
      refine mj_b_getV (hE := fe_47_87) (hM := by assumption) (hv := by assumption) (k := ?_)
      refine mj_b_callR (hE := fe_47_90) (hi := in_32) (h1 := g32' _ h) (hc := mj_cok_v rfl rfl hS) (ha := rfl) (hr := rfl) ?_
      refine mj_b_if1 (hE := fe_47_93) (kt := fun q => ?_) (kf := fun q => ?_)
      · simp only [mj_cnd, Bool.not_eq_true', decide_eq_false_iff_not, pz_0, Bool.not_eq_false] at q
        exact hnx _ _ ((ih (i + 1) _ v4 (by omega)).mono (fun s hs => by rw [hs, drop_get hlt, List.countP_cons]; simp [a_gor, q]))
      · simp only [mj_cnd, Bool.not_eq_false', decide_eq_true_eq, pz_0] at q
        refine mj_b_iinc (hE := fe_47_96) (hv := rfl) (k := ?_)
        exact hnx _ _ ((ih (i + 1) _ v4 (by omega)).mono (fun s hs => by rw [hs, drop_get hlt, List.countP_cons]; simp [a_gor, q, nI_succ, Int32.add_assoc, Int32.add_comm, i32_alc]))
set_option maxHeartbeats 1000000 in
theorem l47a (h : cs_rep b pi S I R) (ho : cs_rep o po So I R) :
    ∀ (k i : Nat) (c : Int32) (v4 : Value), i + k = S.1.length → mj_T pj_P 47 19 [.ref b, .ref o, .int c, .int (nI i), v4] [] (mz_SH L, I, R) (fun s => s = (some (.int (c + nI ((S.1.drop i).countP (a_chr So.1)) + nI (So.1.countP (a_gor S.1)) + (nI (S.2.1.countP (a_chl So.2.1)) + nI (So.2.1.countP (a_gol S.2.1))))), (mz_SH L, I, R))) := by
  have hS := sh_S L h.1
  have hSo := sh_S L ho.1
  have hA := sh_A L h.1
  have hR := h.2.1.1
  obtain ⟨hn1, hn2⟩ := h.2.2.1
  intro k
  induction k with
  | zero =>
    intro i c v4 hi
    have hin : i = S.1.length := by omega
    subst hin
    refine mj_b_iload_n (hE := fe_47_19) (hv := rfl) (k := ?_)
    refine mj_b_rload_n (hE := fe_47_20) (hv := rfl) (k := ?_)
    refine mj_b_getV (hE := fe_47_21) (hM := by assumption) (hv := by assumption) (k := ?_)
    refine mj_b_if2 (hE := fe_47_24) (kt := fun g => ?_) (kf := fun g => ?_)
    · refine mj_b_iconst (hE := fe_47_70) (k := ?_)
      refine mj_b_istore_n (hE := fe_47_71) (hx := Nat.le_of_ble_eq_true rfl) (k := ?_)
      exact (l47b h ho So.1.length 0 c v4 (by omega)).mono (fun s hs => by rw [hs, List.drop_length]; simp; rfl)
    · simp [mj_cnd] at g
  | succ k ih =>
    intro i c v4 hi
    have hi13 : i < 13 := by omega
    have hlt : i < S.1.length := by omega
    obtain ⟨hr1, hr2⟩ := h.2.1.2.2.1 i hi13
    have hC := sh_R L h.1 hr2
    have hCp := sh_P L h.1 hr2
    have hrow := h.2.2.2.2.1 i _ (List.getElem?_eq_getElem hlt)
    have hp0 : I (b + 3 + 2 * pi i) 0 = (S.1[i]).1 := h.path (List.getElem?_eq_getElem hlt)
    have hnx : ∀ Q c v4, mj_T pj_P 47 19 [.ref b, .ref o, .int c, .int (nI (i + 1)), v4] [] (mz_SH L, I, R) Q → mj_T pj_P 47 64 [.ref b, .ref o, .int c, .int (nI i), v4] [] (mz_SH L, I, R) Q := by
      intro Q c v4 hQ
      refine mj_b_iinc (hE := fe_47_64) (hv := rfl) (k := ?_)
      refine mj_b_goto (hE := fe_47_67) (k := ?_)
      exact (show mj_T pj_P 47 19 [.ref b, .ref o, .int c, .int (nI i + 1), v4] [] (mz_SH L, I, R) Q from (nI_succ i) ▸ hQ)
    refine mj_b_iload_n (hE := fe_47_19) (hv := rfl) (k := ?_)
    refine mj_b_rload_n (hE := fe_47_20) (hv := rfl) (k := ?_)
    refine mj_b_getV (hE := fe_47_21) (hM := by assumption) (hv := by assumption) (k := ?_)
    refine mj_b_if2 (hE := fe_47_24) (kt := fun g => ?_) (kf := fun g => ?_)
    · simp only [mj_cnd, decide_eq_true_eq] at g
      exact absurd g (nI_ge (by omega) (by omega))
    · refine mj_b_rload_n (hE := fe_47_27) (hv := rfl) (k := ?_)
      refine mj_b_rload_n (hE := fe_47_28) (hv := rfl) (k := ?_)
      refine mj_b_getQ (hE := fe_47_29) (hM := by assumption) (hv := by assumption) (k := ?_)
      refine mj_b_iload_n (hE := fe_47_32) (hv := rfl) (k := ?_)
      refine mj_b_aaldQ (hE := fe_47_33) (hM := by assumption) (ht := by decide) (hj := rfl) (hc := by omega) (hn := by decide) (hv := by assumption) (k := ?_)
      refine mj_b_getV (hE := fe_47_34) (hM := by assumption) (hv := by assumption) (k := ?_)
      refine mj_b_callR (hE := fe_47_37) (hi := in_28) (h1 := g28' _ ho) (hc := mj_cok_v rfl rfl hSo) (ha := rfl) (hr := rfl) ?_
      cases hf : ar_fi So.1 (S.1[i]).1 with
      | none =>
        have hg := ar_fi_getN hf
        refine (show mj_T pj_P 47 40 _ [va_rf none] _ _ from ?_)
        refine mj_b_astore (hE := fe_47_40) (hx := Nat.le_of_ble_eq_true rfl) (k := ?_)
        refine mj_b_aload (hE := fe_47_42) (hv := rfl) (k := ?_)
        refine mj_b_nul (hE := fe_47_44) (kn := fun q => ?_) (ks := fun qa q => ?_)
        · refine mj_b_iinc (hE := fe_47_61) (hv := rfl) (k := ?_)
          exact hnx _ _ _ ((ih (i + 1) _ _ (by omega)).mono (fun s hs => by rw [hs, drop_get hlt, List.countP_cons]; simp [a_chr, hg, nI_succ, Int32.add_assoc, Int32.add_comm, i32_alc]))
        · cases q
      | some j =>
        obtain ⟨r, hr, -⟩ := ar_fi_some hf
        have hg := ar_fi_get hf
        rw [hr] at hg
        have hjl := (List.getElem?_eq_some_iff.mp hr).1
        have ho13 := ho.2.2.1.2
        have hq := (ho.2.1.2.2.1 j (by omega)).2
        have hD := sh_R L ho.1 hq
        have hDp := sh_P L ho.1 hq
        have hrow2 := ho.2.2.2.2.1 j r hr
        have e1 : b + 3 + 2 * pi i + 1 = b + 4 + 2 * pi i := by omega
        have e2 : o + 3 + 2 * po j + 1 = o + 4 + 2 * po j := by omega
        have hlik : cr_lik I (b + 3 + 2 * pi i) (o + 3 + 2 * po j) = decide ((S.1[i]).2 = r.2) := by
          rw [cr_lik_eq]
          rw [show rw_at I (b + 3 + 2 * pi i) = S.1[i] from hrow, show rw_at I (o + 3 + 2 * po j) = r from hrow2]
        have g48c := g48 (L := L) (I := I) (R := R) hC (by rw [e1]; exact hCp) (by rw [e1]; exact h.2.1.2.2.2.2.1 _ hr2) hD (by rw [e2]; exact hDp) (by rw [e2]; exact ho.2.1.2.2.2.2.1 _ hq)
        rw [hlik] at g48c
        refine (show mj_T pj_P 47 40 _ [va_rf (some (o + 3 + 2 * po j))] _ _ from ?_)
        refine mj_b_astore (hE := fe_47_40) (hx := Nat.le_of_ble_eq_true rfl) (k := ?_)
        refine mj_b_aload (hE := fe_47_42) (hv := rfl) (k := ?_)
        refine mj_b_nul (hE := fe_47_44) (kn := fun q => ?_) (ks := fun qa q => ?_)
        · cases q
        · refine (show mj_T pj_P 47 47 [.ref b, .ref o, .int c, .int (nI i), .ref (o + 3 + 2 * po j)] [] _ _ from ?_)
          refine mj_b_rload_n (hE := fe_47_47) (hv := rfl) (k := ?_)
          refine mj_b_getQ (hE := fe_47_48) (hM := by assumption) (hv := by assumption) (k := ?_)
          refine mj_b_iload_n (hE := fe_47_51) (hv := rfl) (k := ?_)
          refine mj_b_aaldQ (hE := fe_47_52) (hM := by assumption) (ht := by decide) (hj := rfl) (hc := by omega) (hn := by decide) (hv := by assumption) (k := ?_)
          refine mj_b_rload (hE := fe_47_53) (hv := rfl) (k := ?_)
          refine mj_b_callR (hE := fe_47_55) (hi := in_48) (h1 := g48c) (hc := mj_cok_v rfl rfl hC) (ha := rfl) (hr := rfl) ?_
          refine mj_b_if1 (hE := fe_47_58) (kt := fun m => ?_) (kf := fun m => ?_)
          · simp only [mj_cnd, Bool.not_eq_true', decide_eq_false_iff_not, pz_0, Bool.not_eq_false, decide_eq_true_eq] at m
            exact hnx _ _ _ ((ih (i + 1) _ _ (by omega)).mono (fun s hs => by rw [hs, drop_get hlt, List.countP_cons]; simp [a_chr, ← hg, m]))
          · simp only [mj_cnd, Bool.not_eq_false', decide_eq_true_eq, pz_0, decide_eq_false_iff_not] at m
            refine mj_b_iinc (hE := fe_47_61) (hv := rfl) (k := ?_)
            exact hnx _ _ _ ((ih (i + 1) _ _ (by omega)).mono (fun s hs => by rw [hs, drop_get hlt, List.countP_cons]; simp [a_chr, ← hg, m, nI_succ, Int32.add_assoc, Int32.add_comm, i32_alc]))
/-- Store.changesSince -/
theorem g47 (h : cs_rep b pi S I R) (ho : cs_rep o po So I R) :
    mj_G pj_P 47 [.ref b, .ref o] (mz_SH L, I, R) (fun s => s = (some (.int (a_chg S So)), (mz_SH L, I, R))) := by
  have hS := sh_S L h.1
  have hSo := sh_S L ho.1
  have c1 := h.2.2.2.2.2.2.1
  have c2 := ho.2.2.2.2.2.2.1
  refine mj_enter in_47 (L := [.ref b, .ref o, .retAddr 0, .retAddr 0, .retAddr 0]) rfl ?_
  refine mj_b_rload_n (hE := fe_47_0) (hv := rfl) (k := ?_)
  refine mj_b_getV (hE := fe_47_1) (hM := by assumption) (hv := by assumption) (k := ?_)
  refine mj_b_rload_n (hE := fe_47_4) (hv := rfl) (k := ?_)
  refine mj_b_getV (hE := fe_47_5) (hM := by assumption) (hv := by assumption) (k := ?_)
  refine mj_b_if2 (hE := fe_47_8) (kt := fun g => ?_) (kf := fun g => ?_)
  · simp only [mj_cnd, Bool.not_eq_true', decide_eq_false_iff_not] at g
    refine mj_b_iconst (hE := fe_47_15) (k := ?_)
    refine mj_b_istore_n (hE := fe_47_16) (hx := Nat.le_of_ble_eq_true rfl) (k := ?_)
    refine mj_b_iconst (hE := fe_47_17) (k := ?_)
    refine mj_b_istore_n (hE := fe_47_18) (hx := Nat.le_of_ble_eq_true rfl) (k := ?_)
    exact (l47a h ho S.1.length 0 1 _ (by omega)).mono (fun s hs => by rw [hs]; simp [a_chg, g])
  · simp only [mj_cnd, Bool.not_eq_false', decide_eq_true_eq] at g
    refine mj_b_iconst (hE := fe_47_11) (k := ?_)
    refine mj_b_goto (hE := fe_47_12) (k := ?_)
    refine mj_b_istore_n (hE := fe_47_16) (hx := Nat.le_of_ble_eq_true rfl) (k := ?_)
    refine mj_b_iconst (hE := fe_47_17) (k := ?_)
    refine mj_b_istore_n (hE := fe_47_18) (hx := Nat.le_of_ble_eq_true rfl) (k := ?_)
    exact (l47a h ho S.1.length 0 0 _ (by omega)).mono (fun s hs => by rw [hs]; simp [a_chg, g])
/-- the class: now at sn, next at sx -/
def c_all (sn sx : Nat) (pn px : Nat → Nat) (S : ty_st) (H : ty_hd) (f w : Int32) (ms : List Int32) (I : Nat → Nat → Int32) (R : Nat → Nat → Option Nat) : Prop :=
  c_top sn sx R ∧ ((sn = 2 ∧ sx = 37) ∨ (sn = 37 ∧ sx = 2)) ∧ cs_rep sn pn S I R ∧ cs_ok sx px R ∧ hd_rep H I R ∧ I 1 3 = f ∧ I 1 4 = w ∧ (I 1 6 = nI ms.length ∧ ms.length ≤ 12) ∧ ∀ i v, ms[i]? = some v → I 86 i = v
/-- the header's cells are as they were -/
theorem hd_rep.eq {I' : Nat → Nat → Int32} {R' : Nat → Nat → Option Nat} (h : hd_rep H I R) (h1 : ∀ x j, 72 ≤ x → x ≤ 85 → I' x j = I x j) (h2 : ∀ x j, 72 ≤ x → x ≤ 85 → R' x j = R x j) : hd_rep H I' R' := by
  obtain ⟨⟨a1, a2⟩, ⟨b1, b2⟩, c, d1, ⟨d2, d3⟩, d4, d5, d6, d7⟩ := h
  refine ⟨⟨?_, ?_⟩, ⟨?_, b2⟩, ?_, ?_, ⟨?_, d3⟩, ?_, ?_, ?_, ?_⟩
  · rw [h2 _ _ (by omega) (by omega)]; exact a1
  · intro i hi; rw [h2 _ _ (by omega) (by omega)]; exact a2 i hi
  · rw [h1 _ _ (by omega) (by omega)]; exact b1
  · intro i q hi
    have hl := (List.getElem?_eq_some_iff.mp hi).1
    obtain ⟨e0, e1, e2, e3, e4⟩ := c i q hi
    refine ⟨?_, ?_, ?_, ?_, ?_⟩ <;> rw [h1 _ _ (by omega) (by omega)] <;> assumption
  · rw [h1 _ _ (by omega) (by omega)]; exact d1
  · rw [h1 _ _ (by omega) (by omega)]; exact d2
  · rw [h1 _ _ (by omega) (by omega)]; exact d4
  · rw [h1 _ _ (by omega) (by omega)]; exact d5
  · rw [h1 _ _ (by omega) (by omega)]; exact d6
  · rw [h1 _ _ (by omega) (by omega)]; exact d7
/-- the next store has changed -/
theorem c_all.fr {I' : Nat → Nat → Int32} {R' : Nat → Nat → Option Nat} {px' : Nat → Nat} (h : c_all sn sx pn px S H f w ms I R) (fI : fr_I sx I I') (fR : fr_R sx R R') (hok : cs_ok sx px' R') : c_all sn sx pn px' S H f w ms I' R' := by
  obtain ⟨⟨t1, t2, t3, t4⟩, hsx, hs, -, hh, hf, hw, ⟨m1, m2⟩, m3⟩ := h
  have eR : ∀ j, R' 1 j = R 1 j := fun j => fR _ _ (by omega)
  have eI : ∀ j, I' 1 j = I 1 j := fun j => fI _ _ (by omega)
  refine ⟨⟨?_, ?_, ?_, ?_⟩, hsx, hs.fr (b := sx) (by omega) (by omega) fI fR, hok, hh.eq ?_ ?_, ?_, ?_, ⟨?_, m2⟩, ?_⟩
  · rw [eR]; exact t1
  · rw [eR]; exact t2
  · rw [eR]; exact t3
  · rw [eR]; exact t4
  · intro x j h1 h2; exact fI _ _ (by omega)
  · intro x j h1 h2; exact fR _ _ (by omega)
  · rw [eI]; exact hf
  · rw [eI]; exact hw
  · rw [eI]; exact m1
  · intro i v hi; rw [fI _ _ (by omega)]; exact m3 i v hi
end CY
