/-! ===== the class: rows and locks go; a lock is added ===== -/
section TR
variable {L b o : Nat} {pi : Nat → Nat} {S : ty_st} {I : Nat → Nat → Int32} {R R0 : Nat → Nat → Option Nat}
def ar_out (p : Int32) (r : ty_rw) : Bool := !pf_within r.1 p
/-- the rows that stay stand first, up to i -/
def tr_inv (b : Nat) (rs : List ty_rw) (p : Int32) (I : Nat → Nat → Int32) (R0 : Nat → Nat → Option Nat) (i kp : Nat) (pi : Nat → Nat) (R : Nat → Nat → Option Nat) : Prop :=
  cs_ok b pi R ∧ kp = ((rs.take i).filter (ar_out p)).length ∧ kp ≤ i ∧ (∀ j r, ((rs.take i).filter (ar_out p))[j]? = some r → rw_at I (cs_row b pi j) = r) ∧ (∀ j r, i ≤ j → rs[j]? = some r → rw_at I (cs_row b pi j) = r) ∧ ∀ x j, x ≠ b + 1 → R x j = R0 x j
def sw_f (i k j : Nat) : Nat := if j = k then i else if j = i then k else j
set_option maxHeartbeats 2000000 in
theorem l57 {rs : List ty_rw} {p : Int32} {Q : Option Value × mj_H → Prop} (hb : b = 2 ∨ b = 37) (hn : I b 1 = nI rs.length) (hn13 : rs.length ≤ 13)
    (hk : ∀ kp pi R v4, tr_inv b rs p I R0 rs.length kp pi R → mj_T pj_P 57 61 [.ref b, .int p, .int (nI kp), .int (nI rs.length), v4] [] (mz_SH L, I, R) Q) :
    ∀ (k i kp : Nat) (pi : Nat → Nat) (R : Nat → Nat → Option Nat) (v4 : Value), i + k = rs.length → tr_inv b rs p I R0 i kp pi R → mj_T pj_P 57 4 [.ref b, .int p, .int (nI kp), .int (nI i), v4] [] (mz_SH L, I, R) Q := by
  have hS := sh_S L hb
  have hA := sh_A L hb
  intro k
  induction k with
  | zero =>
    intro i kp pi R v4 hi hv
    have hin : i = rs.length := by omega
    subst hin
    refine mj_b_iload_n (hE := fe_57_4) (hv := rfl) (k := ?_)
    refine mj_b_rload_n (hE := fe_57_5) (hv := rfl) (k := ?_)
    refine mj_b_getV (hE := fe_57_6) (hM := by assumption) (hv := by assumption) (k := ?_)
    refine mj_b_if2 (hE := fe_57_9) (kt := fun h => ?_) (kf := fun h => ?_)
    · exact hk _ _ _ _ hv
    · simp [mj_cnd] at h
  | succ k ih =>
    intro i kp pi R v4 hi hv
    obtain ⟨hok, hkp, hki, hlo, hhi, hRR⟩ := hv
    have hi13 : i < 13 := by omega
    have hlt : i < rs.length := by omega
    have hR := hok.1
    obtain ⟨hr1, hr2⟩ := hok.2.2.1 i hi13
    obtain ⟨hq1, hq2⟩ := hok.2.2.1 kp (by omega)
    have hC := sh_R L hb hr2
    have hD := sh_R L hb hq2
    have hri := hhi i _ (Nat.le_refl _) (List.getElem?_eq_getElem hlt)
    have hp0 : I (b + 3 + 2 * pi i) 0 = (rs[i]).1 := by rw [← hri]; rfl
    have htk : rs.take (i + 1) = rs.take i ++ [rs[i]] := by rw [List.take_append_getElem hlt]
    have hnx : ∀ (R : Nat → Nat → Option Nat) c v, mj_T pj_P 57 4 [.ref b, .int p, c, .int (nI (i + 1)), v] [] (mz_SH L, I, R) Q → mj_T pj_P 57 55 [.ref b, .int p, c, .int (nI i), v] [] (mz_SH L, I, R) Q := by
      intro R c v hQ
      refine mj_b_iinc (hE := fe_57_55) (hv := rfl) (k := ?_)
      refine mj_b_goto (hE := fe_57_58) (k := ?_)
      exact (show mj_T pj_P 57 4 [.ref b, .int p, c, .int (nI i + 1), v] [] (mz_SH L, I, R) Q from (nI_succ i) ▸ hQ)
    refine mj_b_iload_n (hE := fe_57_4) (hv := rfl) (k := ?_)
    refine mj_b_rload_n (hE := fe_57_5) (hv := rfl) (k := ?_)
    refine mj_b_getV (hE := fe_57_6) (hM := by assumption) (hv := by assumption) (k := ?_)
    refine mj_b_if2 (hE := fe_57_9) (kt := fun h => ?_) (kf := fun h => ?_)
    · simp only [mj_cnd, decide_eq_true_eq] at h
      exact absurd h (nI_ge (by omega) (by omega))
    · refine mj_b_rload_n (hE := fe_57_12) (hv := rfl) (k := ?_)
      refine mj_b_getQ (hE := fe_57_13) (hM := by assumption) (hv := by assumption) (k := ?_)
      refine mj_b_iload_n (hE := fe_57_16) (hv := rfl) (k := ?_)
      refine mj_b_aaldQ (hE := fe_57_17) (hM := by assumption) (ht := by decide) (hj := rfl) (hc := by omega) (hn := by decide) (hv := by assumption) (k := ?_)
      refine mj_b_rstore (hE := fe_57_18) (hx := Nat.le_of_ble_eq_true rfl) (k := ?_)
      refine mj_b_rload (hE := fe_57_20) (hv := rfl) (k := ?_)
      refine mj_b_getV (hE := fe_57_22) (hM := by assumption) (hv := by assumption) (k := ?_)
      refine mj_b_iload_n (hE := fe_57_25) (hv := rfl) (k := ?_)
      refine mj_b_callR (hE := fe_57_26) (hi := in_55) (h1 := g55 _ _ _) (hc := mj_cok_s rfl) (ha := rfl) (hr := rfl) ?_
      refine mj_b_if1 (hE := fe_57_29) (kt := fun g => ?_) (kf := fun g => ?_)
      · simp only [mj_cnd, Bool.not_eq_true', decide_eq_false_iff_not, pz_0, Bool.not_eq_false] at g
        have hfl : (rs.take (i + 1)).filter (ar_out p) = (rs.take i).filter (ar_out p) := by
          rw [htk, List.filter_append]
          simp [ar_out, g]
        refine hnx _ _ _ (ih (i + 1) kp pi R _ (by omega) ⟨hok, ?_, by omega, ?_, ?_, hRR⟩)
        · rw [hfl]; exact hkp
        · rw [hfl]; exact hlo
        · intro j r hj; exact hhi j r (by omega)
      · simp only [mj_cnd, Bool.not_eq_false', decide_eq_true_eq, pz_0] at g
        refine mj_b_rload_n (hE := fe_57_32) (hv := rfl) (k := ?_)
        refine mj_b_getQ (hE := fe_57_33) (hM := by assumption) (hv := by assumption) (k := ?_)
        refine mj_b_iload_n (hE := fe_57_36) (hv := rfl) (k := ?_)
        refine mj_b_rload_n (hE := fe_57_37) (hv := rfl) (k := ?_)
        refine mj_b_getQ (hE := fe_57_38) (hM := by assumption) (hv := by assumption) (k := ?_)
        refine mj_b_iload_n (hE := fe_57_41) (hv := rfl) (k := ?_)
        refine mj_b_aaldQ (hE := fe_57_42) (hM := by assumption) (ht := by decide) (hj := rfl) (hc := by omega) (hn := by decide) (hv := by assumption) (k := ?_)
        refine mj_b_aast (hE := fe_57_43) (u := 2) (hM := hA) (hq := hD) (hu := by decide) (hi := mj_ix_nI hi13 (by decide)) (k := ?_)
        refine mj_b_rload_n (hE := fe_57_44) (hv := rfl) (k := ?_)
        refine mj_b_getQ (hE := fe_57_45) (q := b + 1) (hM := hS) (hv := by simp [mj_u, hR]) (k := ?_)
        refine mj_b_iload_n (hE := fe_57_48) (hv := rfl) (k := ?_)
        refine mj_b_rload (hE := fe_57_49) (hv := rfl) (k := ?_)
        refine mj_b_aast (hE := fe_57_51) (u := 2) (hM := hA) (hq := hC) (hu := by decide) (hi := mj_ix_nI (show kp < 13 by omega) (by decide)) (k := ?_)
        refine mj_b_iinc (hE := fe_57_52) (hv := rfl) (k := ?_)
        refine (show mj_T pj_P 57 55 [.ref b, .int p, .int (nI kp + 1), .int (nI i), _] [] (mz_SH L, I, _) Q from ?_)
        rw [← nI_succ, nI_clamp (by omega), nI_clamp (by omega)]
        have hfl : (rs.take (i + 1)).filter (ar_out p) = (rs.take i).filter (ar_out p) ++ [rs[i]] := by
          rw [htk, List.filter_append]
          simp [ar_out, g]
        have hσ : ∀ j, j < 13 → sw_f i kp j < 13 := by intro j hj; unfold sw_f; split <;> (try split) <;> omega
        refine hnx _ _ _ (ih (i + 1) (kp + 1) (fun j => pi (sw_f i kp j)) _ _ (by omega) ⟨?_, ?_, by omega, ?_, ?_, ?_⟩)
        · refine hok.perm hσ ?_ ?_ ?_
          · intro x y hx hy e
            unfold sw_f at e
            split at e <;> split at e <;> (try split at e) <;> (try split at e) <;> omega
          · intro j hj
            unfold sw_f mj_u
            by_cases h1 : j = kp
            · subst h1; simp; exact hr1.symm
            · by_cases h2 : j = i
              · subst h2; simp [h1]; exact hq1.symm
              · simp [h1, h2]
          · intro x j hx
            simp [mj_u, hx]
        · rw [hfl, List.length_append, ← hkp]; rfl
        · intro j r hj
          rw [hfl, List.getElem?_append] at hj
          split at hj
          · rename_i hjk
            have e : sw_f i kp j = j := by unfold sw_f; rw [if_neg (by omega), if_neg (by omega)]
            have := hlo j r hj
            simp only [cs_row, e] at this ⊢
            exact this
          · rename_i hjk
            have hj1 := (List.getElem?_eq_some_iff.mp hj).1
            simp only [List.length_cons, List.length_nil] at hj1
            have hjk2 : j = kp := by omega
            have e0 : j - ((rs.take i).filter (ar_out p)).length = 0 := by omega
            rw [e0] at hj
            simp only [List.getElem?_cons_zero, Option.some.injEq] at hj
            have e : sw_f i kp j = i := by unfold sw_f; rw [if_pos hjk2]
            simp only [cs_row, e]
            rw [← hj]
            exact hri
        · intro j r hj hjr
          have e : sw_f i kp j = j := by unfold sw_f; rw [if_neg (by omega), if_neg (by omega)]
          have := hhi j r (by omega) hjr
          simp only [cs_row, e] at this ⊢
          exact this
        · intro x j hx
          simp only [mj_u, hx, false_and, if_false]
          exact hRR x j hx
set_option maxHeartbeats 1000000 in
/-- Store.removeTree -/
theorem g57 (p : Int32) (h : cs_rep b pi S I R) :
    mj_G pj_P 57 [.ref b, .int p] (mz_SH L, I, R) (fun r => ∃ pi' I' R', r = (none, (mz_SH L, I', R')) ∧ cs_rep b pi' (S.1.filter (ar_out p), S.2) I' R' ∧ fr_I b I I' ∧ fr_R b R R') := by
  have hb := h.1
  have hS := sh_S L hb
  refine mj_enter in_57 (L := [.ref b, .int p, .retAddr 0, .retAddr 0, .retAddr 0]) rfl ?_
  refine mj_b_iconst (hE := fe_57_0) (k := ?_)
  refine mj_b_istore_n (hE := fe_57_1) (hx := Nat.le_of_ble_eq_true rfl) (k := ?_)
  refine mj_b_iconst (hE := fe_57_2) (k := ?_)
  refine mj_b_istore_n (hE := fe_57_3) (hx := Nat.le_of_ble_eq_true rfl) (k := ?_)
  refine l57 (R0 := R) hb h.2.2.1.1 h.2.2.1.2 ?_ S.1.length 0 0 pi R _ (by omega) ⟨h.2.1, by simp, Nat.le_refl _, by simp, fun j r _ hj => h.2.2.2.2.1 j r hj, fun _ _ _ => rfl⟩
  intro kp pi' R' v4 hv
  obtain ⟨hok, hkp, hki, hlo, hhi, hRR⟩ := hv
  rw [List.take_length] at hkp hlo
  obtain ⟨-, -, ⟨n1, n2⟩, ⟨l1, l2⟩, hr, hk, k1, k2, k3⟩ := h
  refine mj_b_rload_n (hE := fe_57_61) (hv := rfl) (k := ?_)
  refine mj_b_iload_n (hE := fe_57_62) (hv := rfl) (k := ?_)
  refine mj_b_putI (hE := fe_57_63) (hw := Or.inl rfl) (hM := by assumption) (k := ?_)
  have hne : ∀ i, cs_row b pi' i ≠ b ∧ cs_row b pi' i + 1 ≠ b := by intro i; unfold cs_row; omega
  refine mj_b_retV (hE := fe_57_66) (hi := in_57) ⟨pi', _, R', rfl, ⟨hb, hok, ⟨?_, ?_⟩, ⟨?_, l2⟩, ?_, ?_, ?_, ?_, ?_⟩, fr_I.u (by omega) (by omega), ?_⟩
  · simp [mj_u, hkp]
  · exact Nat.le_trans (List.length_filter_le _ _) n2
  · simp [mj_u, l1]
  · intro i r hi
    rw [rw_at_eq (I := I)]
    · exact hlo i r hi
    · intro k; exact mj_u_na _ _ _ _ (hne i).1
    · intro k; exact mj_u_na _ _ _ _ (hne i).2
  · intro i l hi
    exact lk_at_eq (fun k => mj_u_na _ _ _ _ (by omega)) (hk i l hi)
  · simp [mj_u, k1]
  · simp [mj_u, k2]
  · simp [mj_u, k3]
  · intro x j hx; exact hRR x j (by omega)
/-- a lock that lives on -/
def al_live (rs : List ty_rw) (ck : Int32) (l : ty_lk) : Bool := !decide (l.2.2.1 ≤ ck) && ar_has rs l.2.1
/-- the locks that live stand first, up to i -/
def dl_inv (b : Nat) (pi : Nat → Nat) (S : ty_st) (I0 : Nat → Nat → Int32) (R : Nat → Nat → Option Nat) (i kp : Nat) (I : Nat → Nat → Int32) : Prop :=
  (∀ x j, (x < b + 29 ∨ b + 34 < x) → I x j = I0 x j) ∧ kp = ((S.2.1.take i).filter (al_live S.1 S.2.2.1)).length ∧ kp ≤ i ∧ (∀ j l, ((S.2.1.take i).filter (al_live S.1 S.2.2.1))[j]? = some l → lk_at I (b + 29 + j) l) ∧ ∀ j l, i ≤ j → S.2.1[j]? = some l → lk_at I (b + 29 + j) l
set_option maxHeartbeats 2000000 in
theorem l46 {I0 : Nat → Nat → Int32} {Q : Option Value × mj_H → Prop} (hs : cs_rep b pi S I0 R)
    (hk : ∀ kp I, dl_inv b pi S I0 R S.2.1.length kp I → mj_T pj_P 46 68 [.ref b, .int (nI kp), .int (nI S.2.1.length)] [] (mz_SH L, I, R) Q) :
    ∀ (k i kp : Nat) (I : Nat → Nat → Int32), i + k = S.2.1.length → dl_inv b pi S I0 R i kp I → mj_T pj_P 46 4 [.ref b, .int (nI kp), .int (nI i)] [] (mz_SH L, I, R) Q := by
  obtain ⟨hb, hok, ⟨n1, n2⟩, ⟨l1, l2⟩, hr, hlk, k1, k2, k3⟩ := hs
  have hS := sh_S L hb
  have hA := sh_K L hb
  have hR := hok.2.1
  intro k
  induction k with
  | zero =>
    intro i kp I hi hv
    have hin : i = S.2.1.length := by omega
    subst hin
    have e3 : I b 3 = nI S.2.1.length := by rw [hv.1 _ _ (by omega)]; exact l1
    refine mj_b_iload_n (hE := fe_46_4) (hv := rfl) (k := ?_)
    refine mj_b_rload_n (hE := fe_46_5) (hv := rfl) (k := ?_)
    refine mj_b_getV (hE := fe_46_6) (hM := by assumption) (hv := by assumption) (k := ?_)
    refine mj_b_if2 (hE := fe_46_9) (kt := fun h => ?_) (kf := fun h => ?_)
    · exact hk _ _ hv
    · simp [mj_cnd] at h
  | succ k ih =>
    intro i kp I hi hv
    have hv0 := hv
    obtain ⟨hfr, hkp, hki, hlo, hhi⟩ := hv
    have e3 : I b 3 = nI S.2.1.length := by rw [hfr _ _ (by omega)]; exact l1
    have e4 : I b 4 = S.2.2.1 := by rw [hfr _ _ (by omega)]; exact k1
    have e1 : I b 1 = nI S.1.length := by rw [hfr _ _ (by omega)]; exact n1
    have hi6 : i < 6 := by omega
    have hlt : i < S.2.1.length := by omega
    have hr1 := hok.2.2.2.1 i hi6
    have hq1 := hok.2.2.2.1 kp (by omega)
    have hC := sh_L L hb hi6
    have hD := sh_L L hb (show kp < 6 by omega)
    have hli := hhi i _ (Nat.le_refl _) (List.getElem?_eq_getElem hlt)
    have v1 := hli.2.1
    have v2 := hli.2.2.1
    have htk : S.2.1.take (i + 1) = S.2.1.take i ++ [S.2.1[i]] := by rw [List.take_append_getElem hlt]
    have hhas : cs_has I b pi S.1.length (S.2.1[i]).2.1 = ar_has S.1 (S.2.1[i]).2.1 := by
      unfold cs_has
      rw [cs_fnd_list S.1 0, ← ar_fi_has]
      · simp
      · intro j r hjr
        have hl : j < S.1.length := (List.getElem?_eq_some_iff.mp hjr).1
        have := (hok.2.2.1 j (by omega)).2
        rw [Nat.zero_add, hfr _ _ (by unfold cs_row; omega), ← hr j r hjr]
        rfl
    have g32c := g32 (L := L) (R := R) (I := I) (S.2.1[i]).2.1 hb hok e1 n2
    rw [hhas] at g32c
    have hnx : ∀ (I : Nat → Nat → Int32) c, mj_T pj_P 46 4 [.ref b, c, .int (nI (i + 1))] [] (mz_SH L, I, R) Q → mj_T pj_P 46 62 [.ref b, c, .int (nI i)] [] (mz_SH L, I, R) Q := by
      intro I c hQ
      refine mj_b_iinc (hE := fe_46_62) (hv := rfl) (k := ?_)
      refine mj_b_goto (hE := fe_46_65) (k := ?_)
      exact (show mj_T pj_P 46 4 [.ref b, c, .int (nI i + 1)] [] (mz_SH L, I, R) Q from (nI_succ i) ▸ hQ)
    have hdead : al_live S.1 S.2.2.1 S.2.1[i] = false → mj_T pj_P 46 62 [.ref b, .int (nI kp), .int (nI i)] [] (mz_SH L, I, R) Q := by
      intro hd
      have hfl : (S.2.1.take (i + 1)).filter (al_live S.1 S.2.2.1) = (S.2.1.take i).filter (al_live S.1 S.2.2.1) := by
        rw [htk, List.filter_append]
        simp [hd]
      refine hnx _ _ (ih (i + 1) kp I (by omega) ⟨hfr, ?_, by omega, ?_, ?_⟩)
      · rw [hfl]; exact hkp
      · rw [hfl]; exact hlo
      · intro j l hj; exact hhi j l (by omega)
    refine mj_b_iload_n (hE := fe_46_4) (hv := rfl) (k := ?_)
    refine mj_b_rload_n (hE := fe_46_5) (hv := rfl) (k := ?_)
    refine mj_b_getV (hE := fe_46_6) (hM := by assumption) (hv := by assumption) (k := ?_)
    refine mj_b_if2 (hE := fe_46_9) (kt := fun h => ?_) (kf := fun h => ?_)
    · simp only [mj_cnd, decide_eq_true_eq] at h
      exact absurd h (nI_ge (by omega) (by omega))
    · refine mj_b_rload_n (hE := fe_46_12) (hv := rfl) (k := ?_)
      refine mj_b_getQ (hE := fe_46_13) (hM := by assumption) (hv := by assumption) (k := ?_)
      refine mj_b_iload_n (hE := fe_46_16) (hv := rfl) (k := ?_)
      refine mj_b_aaldQ (hE := fe_46_17) (hM := by assumption) (ht := by decide) (hj := rfl) (hc := by omega) (hn := by decide) (hv := by assumption) (k := ?_)
      refine mj_b_getV (hE := fe_46_18) (hM := by assumption) (hv := by assumption) (k := ?_)
      refine mj_b_rload_n (hE := fe_46_21) (hv := rfl) (k := ?_)
      refine mj_b_getV (hE := fe_46_22) (hM := by assumption) (hv := by assumption) (k := ?_)
      refine mj_b_if2 (hE := fe_46_25) (kt := fun g => ?_) (kf := fun g => ?_)
      · simp only [mj_cnd, decide_eq_true_eq] at g
        exact hdead (by simp [al_live, g])
      · simp only [mj_cnd, decide_eq_false_iff_not] at g
        refine mj_b_rload_n (hE := fe_46_28) (hv := rfl) (k := ?_)
        refine mj_b_rload_n (hE := fe_46_29) (hv := rfl) (k := ?_)
        refine mj_b_getQ (hE := fe_46_30) (hM := by assumption) (hv := by assumption) (k := ?_)
        refine mj_b_iload_n (hE := fe_46_33) (hv := rfl) (k := ?_)
        refine mj_b_aaldQ (hE := fe_46_34) (hM := by assumption) (ht := by decide) (hj := rfl) (hc := by omega) (hn := by decide) (hv := by assumption) (k := ?_)
        refine mj_b_getV (hE := fe_46_35) (hM := by assumption) (hv := by assumption) (k := ?_)
        refine mj_b_callR (hE := fe_46_38) (hi := in_32) (h1 := g32c) (hc := mj_cok_v rfl rfl hS) (ha := rfl) (hr := rfl) ?_
        refine mj_b_if1 (hE := fe_46_41) (kt := fun q => ?_) (kf := fun q => ?_)
        · simp only [mj_cnd, decide_eq_true_eq, pz_0] at q
          exact hdead (by simp [al_live, q])
        · simp only [mj_cnd, decide_eq_false_iff_not, pz_0, Bool.not_eq_false] at q
          refine mj_b_rload_n (hE := fe_46_44) (hv := rfl) (k := ?_)
          refine mj_b_getQ (hE := fe_46_45) (hM := by assumption) (hv := by assumption) (k := ?_)
          refine mj_b_iload_n (hE := fe_46_48) (hv := rfl) (k := ?_)
          refine mj_b_aaldQ (hE := fe_46_49) (hM := by assumption) (ht := by decide) (hj := rfl) (hc := by omega) (hn := by decide) (hv := by assumption) (k := ?_)
          refine mj_b_rload_n (hE := fe_46_50) (hv := rfl) (k := ?_)
          refine mj_b_getQ (hE := fe_46_51) (hM := by assumption) (hv := by assumption) (k := ?_)
          refine mj_b_iload_n (hE := fe_46_54) (hv := rfl) (k := ?_)
          refine mj_b_aaldQ (hE := fe_46_55) (hM := by assumption) (ht := by decide) (hj := rfl) (hc := by omega) (hn := by decide) (hv := by assumption) (k := ?_)
          refine mj_b_callN (hE := fe_46_56) (hi := in_41) (h1 := g41 (a := b + 29 + kp) (q := b + 29 + i) hD hC hli) (hc := mj_cok_v rfl rfl hD) (ha := rfl) (hr := rfl) ?_
          refine mj_b_iinc (hE := fe_46_59) (hv := rfl) (k := ?_)
          refine (show mj_T pj_P 46 62 [.ref b, .int (nI kp + 1), .int (nI i)] [] (mz_SH L, _, R) Q from ?_)
          rw [← nI_succ]
          have hfl : (S.2.1.take (i + 1)).filter (al_live S.1 S.2.2.1) = (S.2.1.take i).filter (al_live S.1 S.2.2.1) ++ [S.2.1[i]] := by
            rw [htk, List.filter_append]
            simp [al_live, g, q]
          refine hnx _ _ (ih (i + 1) (kp + 1) _ (by omega) ⟨?_, ?_, by omega, ?_, ?_⟩)
          · intro x j hx
            rw [cl_tak_off _ _ _ _ _ (by omega)]
            exact hfr x j hx
          · rw [hfl, List.length_append, ← hkp]; rfl
          · intro j l hj
            rw [hfl, List.getElem?_append] at hj
            split at hj
            · rename_i hjk
              exact lk_at_eq (fun k => cl_tak_off _ _ _ _ _ (by omega)) (hlo j l hj)
            · rename_i hjk
              have hj1 := (List.getElem?_eq_some_iff.mp hj).1
              simp only [List.length_cons, List.length_nil] at hj1
              have hjk2 : j = kp := by omega
              have e0 : j - ((S.2.1.take i).filter (al_live S.1 S.2.2.1)).length = 0 := by omega
              rw [e0] at hj
              simp only [List.getElem?_cons_zero, Option.some.injEq] at hj
              subst hjk2
              rw [← hj]
              exact cl_tak_at hli
          · intro j l hj hjl
            exact lk_at_eq (fun k => cl_tak_off _ _ _ _ _ (by omega)) (hhi j l (by omega) hjl)
set_option maxHeartbeats 1000000 in
/-- Store.dropDeadLocks -/
theorem g46 (h : cs_rep b pi S I R) :
    mj_G pj_P 46 [.ref b] (mz_SH L, I, R) (fun r => ∃ I', r = (none, (mz_SH L, I', R)) ∧ cs_rep b pi (S.1, S.2.1.filter (al_live S.1 S.2.2.1), S.2.2) I' R ∧ fr_I b I I') := by
  have hb := h.1
  have hS := sh_S L hb
  refine mj_enter in_46 (L := [.ref b, .retAddr 0, .retAddr 0]) rfl ?_
  refine mj_b_iconst (hE := fe_46_0) (k := ?_)
  refine mj_b_istore_n (hE := fe_46_1) (hx := Nat.le_of_ble_eq_true rfl) (k := ?_)
  refine mj_b_iconst (hE := fe_46_2) (k := ?_)
  refine mj_b_istore_n (hE := fe_46_3) (hx := Nat.le_of_ble_eq_true rfl) (k := ?_)
  refine l46 h ?_ S.2.1.length 0 0 I (by omega) ⟨fun _ _ _ => rfl, by simp, Nat.le_refl _, by simp, fun j r _ hj => h.2.2.2.2.2.1 j r hj⟩
  intro kp I' hv
  obtain ⟨hfr, hkp, hki, hlo, hhi⟩ := hv
  rw [List.take_length] at hkp hlo
  obtain ⟨-, hok, ⟨n1, n2⟩, ⟨l1, l2⟩, hr, hk, k1, k2, k3⟩ := h
  refine mj_b_rload_n (hE := fe_46_68) (hv := rfl) (k := ?_)
  refine mj_b_iload_n (hE := fe_46_69) (hv := rfl) (k := ?_)
  refine mj_b_putI (hE := fe_46_70) (hw := Or.inl rfl) (hM := by assumption) (k := ?_)
  refine mj_b_retV (hE := fe_46_73) (hi := in_46) ⟨_, rfl, ⟨hb, hok, ⟨?_, n2⟩, ⟨?_, ?_⟩, ?_, ?_, ?_, ?_, ?_⟩, ?_⟩
  · simp [mj_u]; rw [hfr _ _ (by omega)]; exact n1
  · simp [mj_u, hkp]
  · exact Nat.le_trans (List.length_filter_le _ _) l2
  · intro i r hi
    have hl : i < S.1.length := (List.getElem?_eq_some_iff.mp hi).1
    have := (hok.2.2.1 i (by omega)).2
    rw [rw_at_eq (I := I)]
    · exact hr i r hi
    · intro k; rw [mj_u_na _ _ _ _ (by unfold cs_row; omega)]; exact hfr _ _ (by unfold cs_row; omega)
    · intro k; rw [mj_u_na _ _ _ _ (by unfold cs_row; omega)]; exact hfr _ _ (by unfold cs_row; omega)
  · intro i l hi
    exact lk_at_eq (fun k => mj_u_na _ _ _ _ (by omega)) (hlo i l hi)
  · simp [mj_u]; rw [hfr _ _ (by omega)]; exact k1
  · simp [mj_u]; rw [hfr _ _ (by omega)]; exact k2
  · simp [mj_u]; rw [hfr _ _ (by omega)]; exact k3
  · intro x j hx
    rw [mj_u_na _ _ _ _ (by omega)]
    exact hfr _ _ (by omega)
end TR
