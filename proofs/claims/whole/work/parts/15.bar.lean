/-! ===== the class: locks that bar ===== -/
/-- the store at b: its rows in the order pi, nr of them; nl locks, which of them exclusive, which deep -/
def c_st (b : Nat) (pi : Nat → Nat) (nr nl : Nat) (ex dp : Nat → Bool) (I : Nat → Nat → Int32) (R : Nat → Nat → Option Nat) : Prop :=
  (b = 2 ∨ b = 37) ∧ cs_ok b pi R ∧ (I b 1 = nI nr ∧ nr ≤ 13) ∧ (I b 3 = nI nl ∧ nl ≤ 6) ∧ ∀ i, i < nl → I (b + 29 + i) 3 = pz (ex i) ∧ I (b + 29 + i) 4 = pz (dp i)
/-- the header: nc conditions, which of them about a lock, which negated -/
def c_hd (nc : Nat) (al ng : Nat → Bool) (I : Nat → Nat → Int32) (R : Nat → Nat → Option Nat) : Prop :=
  ch_ok R ∧ (I 72 1 = nI nc ∧ nc ≤ 12) ∧ ∀ i, i < nc → I (74 + i) 2 = pz (al i) ∧ I (74 + i) 3 = pz (ng i)
def c_top (sn sx : Nat) (R : Nat → Nat → Option Nat) : Prop := R 1 0 = some sn ∧ R 1 1 = some sx ∧ R 1 2 = some 72 ∧ R 1 5 = some 86
def c_cov (I : Nat → Nat → Int32) (b : Nat) (dp : Nat → Bool) (p : Int32) (i : Nat) : Bool := cl_cov I (b + 29 + i) (dp i) p
def c_csb (I : Nat → Nat → Int32) (b : Nat) (dp al : Nat → Bool) (nc : Nat) (p : Int32) (i : Nat) : Bool := c_cov I b dp p i && ch_sub I al nc (I (b + 29 + i) 0)
set_option maxHeartbeats 1000000 in
theorem l34 {L b sn sx nr nl nc : Nat} {pi : Nat → Nat} {ex dp al ng : Nat → Bool} {I : Nat → Nat → Int32} {R : Nat → Nat → Option Nat} {p : Int32} (hs : c_st b pi nr nl ex dp I R) (hh : c_hd nc al ng I R) (ht : c_top sn sx R) :
    ∀ (k i : Nat) (v4 : Value), i + k = nl → mj_T pj_P 34 2 [.ref 1, .ref b, .int p, .int (nI i), v4] [] (mz_SH L, I, R) (fun r => r = (some (va_rf ((pa_find (c_csb I b dp al nc p) i k).map (fun i => b + 29 + i))), (mz_SH L, I, R))) := by
  obtain ⟨hb, hok, ⟨hn1, hn2⟩, ⟨hl1, hl2⟩, hlk⟩ := hs
  obtain ⟨hc1, ⟨hc2, hc3⟩, hc4⟩ := hh
  obtain ⟨ht1, ht2, ht3, ht4⟩ := ht
  have hS := sh_S L hb
  have hA := sh_K L hb
  have h1 := sh_1 L
  have hR := hok.2.1
  intro k
  induction k with
  | zero =>
    intro i v4 hi
    have hin : i = nl := by omega
    subst hin
    refine mj_b_iload_n (hE := fe_34_2) (hv := rfl) (k := ?_)
    refine mj_b_rload_n (hE := fe_34_3) (hv := rfl) (k := ?_)
    refine mj_b_getV (hE := fe_34_4) (hM := by assumption) (hv := by assumption) (k := ?_)
    refine mj_b_if2 (hE := fe_34_7) (kt := fun h => ?_) (kf := fun h => ?_)
    · refine mj_b_null (hE := fe_34_51) (k := ?_)
      exact mj_b_retN (hE := fe_34_52) (hi := in_34) rfl
    · simp [mj_cnd] at h
  | succ k ih =>
    intro i v4 hi
    have hi6 : i < 6 := by omega
    have hr1 := hok.2.2.2.1 i hi6
    have hC := sh_L L hb hi6
    obtain ⟨hx1, hx2⟩ := hlk i (by omega)
    refine mj_b_iload_n (hE := fe_34_2) (hv := rfl) (k := ?_)
    refine mj_b_rload_n (hE := fe_34_3) (hv := rfl) (k := ?_)
    refine mj_b_getV (hE := fe_34_4) (hM := by assumption) (hv := by assumption) (k := ?_)
    refine mj_b_if2 (hE := fe_34_7) (kt := fun h => ?_) (kf := fun h => ?_)
    · simp only [mj_cnd, decide_eq_true_eq] at h
      exact absurd h (nI_ge (by omega) (by omega))
    · have hnx : ∀ Q, mj_T pj_P 34 2 [.ref 1, .ref b, .int p, .int (nI (i + 1)), .ref (b + 29 + i)] [] (mz_SH L, I, R) Q → mj_T pj_P 34 45 [.ref 1, .ref b, .int p, .int (nI i), .ref (b + 29 + i)] [] (mz_SH L, I, R) Q := by
        intro Q hQ
        refine mj_b_iinc (hE := fe_34_45) (hv := rfl) (k := ?_)
        refine mj_b_goto (hE := fe_34_48) (k := ?_)
        exact (show mj_T pj_P 34 2 [.ref 1, .ref b, .int p, .int (nI i + 1), .ref (b + 29 + i)] [] (mz_SH L, I, R) Q from (nI_succ i) ▸ hQ)
      refine mj_b_rload_n (hE := fe_34_10) (hv := rfl) (k := ?_)
      refine mj_b_getQ (hE := fe_34_11) (hM := by assumption) (hv := by assumption) (k := ?_)
      refine mj_b_iload_n (hE := fe_34_14) (hv := rfl) (k := ?_)
      refine mj_b_aaldQ (hE := fe_34_15) (hM := by assumption) (ht := by decide) (hj := rfl) (hc := by omega) (hn := by decide) (hv := by assumption) (k := ?_)
      refine mj_b_rstore (hE := fe_34_16) (hx := Nat.le_of_ble_eq_true rfl) (k := ?_)
      refine mj_b_rload (hE := fe_34_18) (hv := rfl) (k := ?_)
      refine mj_b_iload_n (hE := fe_34_20) (hv := rfl) (k := ?_)
      refine mj_b_callR (hE := fe_34_21) (hi := in_25) (h1 := g25 p hC hx2) (hc := mj_cok_v rfl rfl hC) (ha := rfl) (hr := rfl) ?_
      refine mj_b_if1 (hE := fe_34_24) (kt := fun g => ?_) (kf := fun g => ?_)
      · simp only [mj_cnd, decide_eq_true_eq, pz_0] at g
        exact hnx _ ((ih (i + 1) _ (by omega)).mono (fun s hs => by rw [hs]; simp [pa_find, c_csb, c_cov, g]))
      · simp only [mj_cnd, decide_eq_false_iff_not, pz_0, Bool.not_eq_false] at g
        refine mj_b_rload_n (hE := fe_34_27) (hv := rfl) (k := ?_)
        refine mj_b_getQ (hE := fe_34_28) (hM := by assumption) (hv := by assumption) (k := ?_)
        refine mj_b_rload (hE := fe_34_31) (hv := rfl) (k := ?_)
        refine mj_b_getV (hE := fe_34_33) (hM := by assumption) (hv := rfl) (k := ?_)
        refine mj_b_callR (hE := fe_34_36) (hi := in_35) (h1 := g35 _ hc1 hc2 hc3 (fun i hi => (hc4 i hi).1)) (hc := mj_cok_v rfl rfl (sh_72 L)) (ha := rfl) (hr := rfl) ?_
        refine mj_b_if1 (hE := fe_34_39) (kt := fun j => ?_) (kf := fun j => ?_)
        · simp only [mj_cnd, decide_eq_true_eq, pz_0] at j
          exact hnx _ ((ih (i + 1) _ (by omega)).mono (fun s hs => by rw [hs]; simp [pa_find, c_csb, c_cov, j]))
        · simp only [mj_cnd, decide_eq_false_iff_not, pz_0, Bool.not_eq_false] at j
          refine mj_b_rload (hE := fe_34_42) (hv := rfl) (k := ?_)
          exact mj_b_retQ (hE := fe_34_44) (hi := in_34) (by simp [pa_find, c_csb, c_cov, g, j, va_rf])
/-- LockedTree.firstSubmitted -/
theorem g34 {L b sn sx nr nl nc : Nat} {pi : Nat → Nat} {ex dp al ng : Nat → Bool} {I : Nat → Nat → Int32} {R : Nat → Nat → Option Nat} (p : Int32) (hs : c_st b pi nr nl ex dp I R) (hh : c_hd nc al ng I R) (ht : c_top sn sx R) :
    mj_G pj_P 34 [.ref 1, .ref b, .int p] (mz_SH L, I, R) (fun r => r = (some (va_rf ((pa_find (c_csb I b dp al nc p) 0 nl).map (fun i => b + 29 + i))), (mz_SH L, I, R))) := by
  refine mj_enter in_34 (L := [.ref 1, .ref b, .int p, .retAddr 0, .retAddr 0]) rfl ?_
  refine mj_b_iconst (hE := fe_34_0) (k := ?_)
  refine mj_b_istore_n (hE := fe_34_1) (hx := Nat.le_of_ble_eq_true rfl) (k := ?_)
  exact l34 hs hh ht nl 0 _ (by omega)
def c_bar (I : Nat → Nat → Int32) (b : Nat) (dp al : Nat → Bool) (nl nc : Nat) (p : Int32) : Bool := pa_any (c_cov I b dp p) 0 nl && !(pa_any (c_csb I b dp al nc p) 0 nl)
set_option maxHeartbeats 1000000 in
theorem l33 {L sn sx nr nl nc : Nat} {pi : Nat → Nat} {ex dp al ng : Nat → Bool} {I : Nat → Nat → Int32} {R : Nat → Nat → Option Nat} {p : Int32} (hs : c_st sn pi nr nl ex dp I R) (hh : c_hd nc al ng I R) (ht : c_top sn sx R) :
    ∀ (k i : Nat) (cv : Bool), i + k = nl → mj_T pj_P 33 4 [.ref 1, .int p, .int (pz cv), .int (nI i)] [] (mz_SH L, I, R) (fun r => r = (some (.int (pz ((cv || pa_any (c_cov I sn dp p) i k) && !(pa_any (c_csb I sn dp al nc p) 0 nl)))), (mz_SH L, I, R))) := by
  have hs0 := hs
  have ht0 := ht
  obtain ⟨hb, hok, ⟨hn1, hn2⟩, ⟨hl1, hl2⟩, hlk⟩ := hs
  obtain ⟨ht1, ht2, ht3, ht4⟩ := ht
  have hS := sh_S L hb
  have hA := sh_K L hb
  have h1 := sh_1 L
  have hR := hok.2.1
  intro k
  induction k with
  | zero =>
    intro i cv hi
    have hin : i = nl := by omega
    subst hin
    refine mj_b_iload_n (hE := fe_33_4) (hv := rfl) (k := ?_)
    refine mj_b_rload_n (hE := fe_33_5) (hv := rfl) (k := ?_)
    refine mj_b_getQ (hE := fe_33_6) (hM := by assumption) (hv := by assumption) (k := ?_)
    refine mj_b_getV (hE := fe_33_9) (hM := by assumption) (hv := by assumption) (k := ?_)
    refine mj_b_if2 (hE := fe_33_12) (kt := fun h => ?_) (kf := fun h => ?_)
    · refine mj_b_iload_n (hE := fe_33_47) (hv := rfl) (k := ?_)
      refine mj_b_if1 (hE := fe_33_48) (kt := fun g => ?_) (kf := fun g => ?_)
      · simp only [mj_cnd, decide_eq_true_eq, pz_0] at g
        refine mj_b_iconst (hE := fe_33_67) (k := ?_)
        exact mj_b_retZ (hE := fe_33_68) (hi := in_33) (Or.inl rfl) (by simp [pa_any, g, pz])
      · simp only [mj_cnd, decide_eq_false_iff_not, pz_0, Bool.not_eq_false] at g
        refine mj_b_rload_n (hE := fe_33_51) (hv := rfl) (k := ?_)
        refine mj_b_rload_n (hE := fe_33_52) (hv := rfl) (k := ?_)
        refine mj_b_getQ (hE := fe_33_53) (hM := by assumption) (hv := by assumption) (k := ?_)
        refine mj_b_iload_n (hE := fe_33_56) (hv := rfl) (k := ?_)
        refine mj_b_callR (hE := fe_33_57) (hi := in_34) (h1 := g34 p hs0 hh ht0) (hc := mj_cok_v rfl rfl h1) (ha := rfl) (hr := rfl) ?_
        refine mj_b_nnul (hE := fe_33_60) (kn := fun j => ?_) (ks := fun ja j => ?_)
        · simp only [Option.map_eq_none_iff] at j
          have j2 := pa_find_any (f := c_csb I sn dp al nc p) i 0
          rw [j] at j2
          refine mj_b_iconst (hE := fe_33_63) (k := ?_)
          refine mj_b_goto (hE := fe_33_64) (k := ?_)
          exact mj_b_retZ (hE := fe_33_68) (hi := in_33) (Or.inr rfl) (by simp [pa_any, g, pz, ← j2])
        · obtain ⟨q, hq, -⟩ := Option.map_eq_some_iff.mp j
          have j2 := pa_find_any (f := c_csb I sn dp al nc p) i 0
          rw [hq] at j2
          refine mj_b_iconst (hE := fe_33_67) (k := ?_)
          exact mj_b_retZ (hE := fe_33_68) (hi := in_33) (Or.inl rfl) (by simp [pa_any, g, pz, ← j2])
    · simp [mj_cnd] at h
  | succ k ih =>
    intro i cv hi
    have hi6 : i < 6 := by omega
    have hr1 := hok.2.2.2.1 i hi6
    have hC := sh_L L hb hi6
    obtain ⟨hx1, hx2⟩ := hlk i (by omega)
    have hnx : ∀ Q v, mj_T pj_P 33 4 [.ref 1, .int p, .int v, .int (nI (i + 1))] [] (mz_SH L, I, R) Q → mj_T pj_P 33 40 [.ref 1, .int p, .int (pz cv), .int (nI i)] [.int v] (mz_SH L, I, R) Q := by
      intro Q v hQ
      refine mj_b_istore_n (hE := fe_33_40) (hx := Nat.le_of_ble_eq_true rfl) (k := ?_)
      refine mj_b_iinc (hE := fe_33_41) (hv := rfl) (k := ?_)
      refine mj_b_goto (hE := fe_33_44) (k := ?_)
      exact (show mj_T pj_P 33 4 [.ref 1, .int p, .int v, .int (nI i + 1)] [] (mz_SH L, I, R) Q from (nI_succ i) ▸ hQ)
    refine mj_b_iload_n (hE := fe_33_4) (hv := rfl) (k := ?_)
    refine mj_b_rload_n (hE := fe_33_5) (hv := rfl) (k := ?_)
    refine mj_b_getQ (hE := fe_33_6) (hM := by assumption) (hv := by assumption) (k := ?_)
    refine mj_b_getV (hE := fe_33_9) (hM := by assumption) (hv := by assumption) (k := ?_)
    refine mj_b_if2 (hE := fe_33_12) (kt := fun h => ?_) (kf := fun h => ?_)
    · simp only [mj_cnd, decide_eq_true_eq] at h
      exact absurd h (nI_ge (by omega) (by omega))
    · refine mj_b_iload_n (hE := fe_33_15) (hv := rfl) (k := ?_)
      refine mj_b_if1 (hE := fe_33_16) (kt := fun g => ?_) (kf := fun g => ?_)
      · simp only [mj_cnd, Bool.not_eq_true', decide_eq_false_iff_not, pz_0, Bool.not_eq_false] at g
        refine mj_b_iconst (hE := fe_33_35) (k := ?_)
        refine mj_b_goto (hE := fe_33_36) (k := ?_)
        exact hnx _ _ ((ih (i + 1) true (by omega)).mono (fun s hs => by rw [hs]; simp [g]))
      · simp only [mj_cnd, Bool.not_eq_false', decide_eq_true_eq, pz_0] at g
        refine mj_b_rload_n (hE := fe_33_19) (hv := rfl) (k := ?_)
        refine mj_b_getQ (hE := fe_33_20) (hM := by assumption) (hv := by assumption) (k := ?_)
        refine mj_b_getQ (hE := fe_33_23) (hM := by assumption) (hv := by assumption) (k := ?_)
        refine mj_b_iload_n (hE := fe_33_26) (hv := rfl) (k := ?_)
        refine mj_b_aaldQ (hE := fe_33_27) (hM := by assumption) (ht := by decide) (hj := rfl) (hc := by omega) (hn := by decide) (hv := by assumption) (k := ?_)
        refine mj_b_iload_n (hE := fe_33_28) (hv := rfl) (k := ?_)
        refine mj_b_callR (hE := fe_33_29) (hi := in_25) (h1 := g25 p hC hx2) (hc := mj_cok_v rfl rfl hC) (ha := rfl) (hr := rfl) ?_
        refine mj_b_if1 (hE := fe_33_32) (kt := fun j => ?_) (kf := fun j => ?_)
        · simp only [mj_cnd, decide_eq_true_eq, pz_0] at j
          refine mj_b_iconst (hE := fe_33_39) (k := ?_)
          exact hnx _ _ ((ih (i + 1) false (by omega)).mono (fun s hs => by rw [hs]; simp [pa_any, c_cov, g, j]))
        · simp only [mj_cnd, decide_eq_false_iff_not, pz_0, Bool.not_eq_false] at j
          refine mj_b_iconst (hE := fe_33_35) (k := ?_)
          refine mj_b_goto (hE := fe_33_36) (k := ?_)
          exact hnx _ _ ((ih (i + 1) true (by omega)).mono (fun s hs => by rw [hs]; simp [pa_any, c_cov, g, j]))
/-- LockedTree.isBarred -/
theorem g33 {L sn sx nr nl nc : Nat} {pi : Nat → Nat} {ex dp al ng : Nat → Bool} {I : Nat → Nat → Int32} {R : Nat → Nat → Option Nat} (p : Int32) (hs : c_st sn pi nr nl ex dp I R) (hh : c_hd nc al ng I R) (ht : c_top sn sx R) :
    mj_G pj_P 33 [.ref 1, .int p] (mz_SH L, I, R) (fun r => r = (some (.int (pz (c_bar I sn dp al nl nc p))), (mz_SH L, I, R))) := by
  refine mj_enter in_33 (L := [.ref 1, .int p, .retAddr 0, .retAddr 0]) rfl ?_
  refine mj_b_iconst (hE := fe_33_0) (k := ?_)
  refine mj_b_istore_n (hE := fe_33_1) (hx := Nat.le_of_ble_eq_true rfl) (k := ?_)
  refine mj_b_iconst (hE := fe_33_2) (k := ?_)
  refine mj_b_istore_n (hE := fe_33_3) (hx := Nat.le_of_ble_eq_true rfl) (k := ?_)
  exact (l33 hs hh ht nl 0 false (by omega)).mono (fun s hs => by rw [hs]; simp [c_bar])
