/-! ===== the class: what is asked ===== -/
theorem i32_nI {k : Int32} (h : ¬ k < 0) : k = nI k.toInt.toNat := by
  apply Int32.toInt_inj.mp
  have h0 : 0 ≤ k.toInt := by
    rw [Int32.lt_iff_toInt_lt, Int32.toInt_zero] at h
    omega
  have h1 := k.toInt_lt
  rw [nI_toInt (by omega)]
  omega
theorem from_nI {k : Int32} {m : Nat} (hm : m < 2 ^ 20) (h : pf_from k 0 (nI m - 1) = true) : ∃ c, c < m ∧ k = nI c := by
  simp only [pf_from, Bool.and_eq_true, Bool.not_eq_true', decide_eq_false_iff_not] at h
  obtain ⟨h0, h1⟩ := h
  cases m with
  | zero =>
    exfalso
    rw [Int32.lt_iff_toInt_lt] at h0 h1
    have e1 : (nI 0 - 1).toInt = -1 := by decide
    rw [e1] at h1
    rw [Int32.toInt_zero] at h0
    omega
  | succ m =>
    rw [nI_pred] at h1
    refine ⟨k.toInt.toNat, ?_, i32_nI h0⟩
    rw [Int32.lt_iff_toInt_lt] at h0 h1
    rw [nI_toInt (by omega)] at h1
    rw [Int32.toInt_zero] at h0
    omega
section QU
variable {L b sn sx nr nl nc : Nat} {pi : Nat → Nat} {ex dp al ng : Nat → Bool} {I : Nat → Nat → Int32} {R : Nat → Nat → Option Nat}
def c_fld (I : Nat → Nat → Int32) (b : Nat) (pi : Nat → Nat) (nr : Nat) (p : Int32) (j : Nat) (d : Int32) : Int32 := match cs_fnd I b pi p 0 nr with
  | some i => I (cs_row b pi i) j
  | none => d
/-- LockedTree.kind -/
theorem g79 (p : Int32) (hs : c_st sn pi nr nl ex dp I R) (ht : c_top sn sx R) :
    mj_G pj_P 79 [.ref 1, .int p] (mz_SH L, I, R) (fun r => r = (some (.int (c_fld I sn pi nr p 1 0)), (mz_SH L, I, R))) := by
  have h1 := sh_1 L
  have hS := sh_S L hs.1
  have ht1 := ht.1
  refine mj_enter in_79 (L := [.ref 1, .int p, .retAddr 0]) rfl ?_
  refine mj_b_rload_n (hE := fe_79_0) (hv := rfl) (k := ?_)
  refine mj_b_getQ (hE := fe_79_1) (hM := by assumption) (hv := by assumption) (k := ?_)
  refine mj_b_iload_n (hE := fe_79_4) (hv := rfl) (k := ?_)
  refine mj_b_callR (hE := fe_79_5) (hi := in_28) (h1 := g28 p hs.1 hs.2.1 hs.2.2.1.1 hs.2.2.1.2) (hc := mj_cok_v rfl rfl hS) (ha := rfl) (hr := rfl) ?_
  generalize hv : (cs_fnd I sn pi p 0 nr).map (cs_row sn pi) = v
  refine mj_b_astore_n (hE := fe_79_8) (hx := Nat.le_of_ble_eq_true rfl) (k := ?_)
  refine mj_b_aload_n (hE := fe_79_9) (hv := rfl) (k := ?_)
  refine mj_b_nnul (hE := fe_79_10) (kn := fun h => ?_) (ks := fun ha h => ?_)
  · subst h
    simp only [Option.map_eq_none_iff] at hv
    refine mj_b_iconst (hE := fe_79_13) (k := ?_)
    refine mj_b_goto (hE := fe_79_14) (k := ?_)
    exact mj_b_retI (hE := fe_79_21) (hi := in_79) (by simp [c_fld, hv])
  · subst h
    obtain ⟨i, hi, hia⟩ := Option.map_eq_some_iff.mp hv
    have hlt := cs_fnd_lt _ _ hi
    have hn2 := hs.2.2.1.2
    have hrow : (mz_SH L)[cs_row sn pi i]? = some (2, 5) := sh_R L hs.1 (hs.2.1.2.2.1 i (by omega)).2
    subst hia
    refine mj_b_rload_n (hE := fe_79_17) (hv := rfl) (k := ?_)
    refine mj_b_getV (hE := fe_79_18) (hM := hrow) (hv := rfl) (k := ?_)
    exact mj_b_retI (hE := fe_79_21) (hi := in_79) (by simp [c_fld, hi])
/-- LockedTree.body -/
theorem g80 (p : Int32) (hs : c_st sn pi nr nl ex dp I R) (ht : c_top sn sx R) :
    mj_G pj_P 80 [.ref 1, .int p] (mz_SH L, I, R) (fun r => r = (some (.int (c_fld I sn pi nr p 2 (-1))), (mz_SH L, I, R))) := by
  have h1 := sh_1 L
  have hS := sh_S L hs.1
  have ht1 := ht.1
  refine mj_enter in_80 (L := [.ref 1, .int p, .retAddr 0]) rfl ?_
  refine mj_b_rload_n (hE := fe_80_0) (hv := rfl) (k := ?_)
  refine mj_b_getQ (hE := fe_80_1) (hM := by assumption) (hv := by assumption) (k := ?_)
  refine mj_b_iload_n (hE := fe_80_4) (hv := rfl) (k := ?_)
  refine mj_b_callR (hE := fe_80_5) (hi := in_28) (h1 := g28 p hs.1 hs.2.1 hs.2.2.1.1 hs.2.2.1.2) (hc := mj_cok_v rfl rfl hS) (ha := rfl) (hr := rfl) ?_
  generalize hv : (cs_fnd I sn pi p 0 nr).map (cs_row sn pi) = v
  refine mj_b_astore_n (hE := fe_80_8) (hx := Nat.le_of_ble_eq_true rfl) (k := ?_)
  refine mj_b_aload_n (hE := fe_80_9) (hv := rfl) (k := ?_)
  refine mj_b_nnul (hE := fe_80_10) (kn := fun h => ?_) (ks := fun ha h => ?_)
  · subst h
    simp only [Option.map_eq_none_iff] at hv
    refine mj_b_iconst (hE := fe_80_13) (k := ?_)
    refine mj_b_goto (hE := fe_80_14) (k := ?_)
    exact mj_b_retI (hE := fe_80_21) (hi := in_80) (by simp [c_fld, hv])
  · subst h
    obtain ⟨i, hi, hia⟩ := Option.map_eq_some_iff.mp hv
    have hlt := cs_fnd_lt _ _ hi
    have hn2 := hs.2.2.1.2
    have hrow : (mz_SH L)[cs_row sn pi i]? = some (2, 5) := sh_R L hs.1 (hs.2.1.2.2.1 i (by omega)).2
    subst hia
    refine mj_b_rload_n (hE := fe_80_17) (hv := rfl) (k := ?_)
    refine mj_b_getV (hE := fe_80_18) (hM := hrow) (hv := rfl) (k := ?_)
    exact mj_b_retI (hE := fe_80_21) (hi := in_80) (by simp [c_fld, hi])
/-- LockedTree.stamp -/
theorem g81 (p : Int32) (hs : c_st sn pi nr nl ex dp I R) (ht : c_top sn sx R) :
    mj_G pj_P 81 [.ref 1, .int p] (mz_SH L, I, R) (fun r => r = (some (.int (c_fld I sn pi nr p 3 (-1))), (mz_SH L, I, R))) := by
  have h1 := sh_1 L
  have hS := sh_S L hs.1
  have ht1 := ht.1
  refine mj_enter in_81 (L := [.ref 1, .int p, .retAddr 0]) rfl ?_
  refine mj_b_rload_n (hE := fe_81_0) (hv := rfl) (k := ?_)
  refine mj_b_getQ (hE := fe_81_1) (hM := by assumption) (hv := by assumption) (k := ?_)
  refine mj_b_iload_n (hE := fe_81_4) (hv := rfl) (k := ?_)
  refine mj_b_callR (hE := fe_81_5) (hi := in_28) (h1 := g28 p hs.1 hs.2.1 hs.2.2.1.1 hs.2.2.1.2) (hc := mj_cok_v rfl rfl hS) (ha := rfl) (hr := rfl) ?_
  generalize hv : (cs_fnd I sn pi p 0 nr).map (cs_row sn pi) = v
  refine mj_b_astore_n (hE := fe_81_8) (hx := Nat.le_of_ble_eq_true rfl) (k := ?_)
  refine mj_b_aload_n (hE := fe_81_9) (hv := rfl) (k := ?_)
  refine mj_b_nnul (hE := fe_81_10) (kn := fun h => ?_) (ks := fun ha h => ?_)
  · subst h
    simp only [Option.map_eq_none_iff] at hv
    refine mj_b_iconst (hE := fe_81_13) (k := ?_)
    refine mj_b_goto (hE := fe_81_14) (k := ?_)
    exact mj_b_retI (hE := fe_81_21) (hi := in_81) (by simp [c_fld, hv])
  · subst h
    obtain ⟨i, hi, hia⟩ := Option.map_eq_some_iff.mp hv
    have hlt := cs_fnd_lt _ _ hi
    have hn2 := hs.2.2.1.2
    have hrow : (mz_SH L)[cs_row sn pi i]? = some (2, 5) := sh_R L hs.1 (hs.2.1.2.2.1 i (by omega)).2
    subst hia
    refine mj_b_rload_n (hE := fe_81_17) (hv := rfl) (k := ?_)
    refine mj_b_getV (hE := fe_81_18) (hM := hrow) (hv := rfl) (k := ?_)
    exact mj_b_retI (hE := fe_81_21) (hi := in_81) (by simp [c_fld, hi])
def c_prp (I : Nat → Nat → Int32) (b : Nat) (pi : Nat → Nat) (nr : Nat) (p k : Int32) : Int32 := match cs_fnd I b pi p 0 nr with
  | some i => if pf_from k 0 2 = true then I (cs_row b pi i + 1) k.toNatClampNeg else -1
  | none => -1
/-- LockedTree.property -/
theorem g82 (p k : Int32) (hs : c_st sn pi nr nl ex dp I R) (ht : c_top sn sx R) :
    mj_G pj_P 82 [.ref 1, .int p, .int k] (mz_SH L, I, R) (fun r => r = (some (.int (c_prp I sn pi nr p k)), (mz_SH L, I, R))) := by
  have h1 := sh_1 L
  have hS := sh_S L hs.1
  have ht1 := ht.1
  refine mj_enter in_82 (L := [.ref 1, .int p, .int k, .retAddr 0]) rfl ?_
  refine mj_b_rload_n (hE := fe_82_0) (hv := rfl) (k := ?_)
  refine mj_b_getQ (hE := fe_82_1) (hM := by assumption) (hv := by assumption) (k := ?_)
  refine mj_b_iload_n (hE := fe_82_4) (hv := rfl) (k := ?_)
  refine mj_b_callR (hE := fe_82_5) (hi := in_28) (h1 := g28 p hs.1 hs.2.1 hs.2.2.1.1 hs.2.2.1.2) (hc := mj_cok_v rfl rfl hS) (ha := rfl) (hr := rfl) ?_
  generalize hv : (cs_fnd I sn pi p 0 nr).map (cs_row sn pi) = v
  refine mj_b_astore_n (hE := fe_82_8) (hx := Nat.le_of_ble_eq_true rfl) (k := ?_)
  refine mj_b_aload_n (hE := fe_82_9) (hv := rfl) (k := ?_)
  refine mj_b_nul (hE := fe_82_10) (kn := fun h => ?_) (ks := fun ha h => ?_)
  · subst h
    simp only [Option.map_eq_none_iff] at hv
    refine mj_b_iconst (hE := fe_82_20) (k := ?_)
    refine mj_b_goto (hE := fe_82_21) (k := ?_)
    exact mj_b_retI (hE := fe_82_30) (hi := in_82) (by simp [c_prp, hv])
  · subst h
    obtain ⟨i, hi, hia⟩ := Option.map_eq_some_iff.mp hv
    have hlt := cs_fnd_lt _ _ hi
    have hn2 := hs.2.2.1.2
    have hpi := (hs.2.1.2.2.1 i (by omega)).2
    have hrow : (mz_SH L)[cs_row sn pi i]? = some (2, 5) := sh_R L hs.1 hpi
    have hprp : (mz_SH L)[cs_row sn pi i + 1]? = some (65, 3) := by
      have := sh_P L hs.1 hpi
      rwa [show sn + 4 + 2 * pi i = cs_row sn pi i + 1 by unfold cs_row; omega] at this
    have hrf : R (cs_row sn pi i) 4 = some (cs_row sn pi i + 1) := by
      have := hs.2.1.2.2.2.2.1 (pi i) hpi
      rwa [show sn + 4 + 2 * pi i = cs_row sn pi i + 1 by unfold cs_row; omega] at this
    subst hia
    refine mj_b_iload_n (hE := fe_82_13) (hv := rfl) (k := ?_)
    refine mj_b_callR (hE := fe_82_14) (hi := in_70) (h1 := g70 _ k) (hc := mj_cok_s rfl) (ha := rfl) (hr := rfl) ?_
    refine mj_b_if1 (hE := fe_82_17) (kt := fun g => ?_) (kf := fun g => ?_)
    · simp only [mj_cnd, Bool.not_eq_true', decide_eq_false_iff_not, pz_0, Bool.not_eq_false] at g
      obtain ⟨c, hc, hk⟩ := from_nI (m := 3) (by decide) (show pf_from k 0 (nI 3 - 1) = true from g)
      have hix : mj_ix k 3 = true := by rw [hk]; exact mj_ix_nI hc (by decide)
      refine mj_b_rload_n (hE := fe_82_24) (hv := rfl) (k := ?_)
      refine mj_b_getQ (hE := fe_82_25) (hM := by assumption) (hv := by assumption) (k := ?_)
      refine mj_b_iload_n (hE := fe_82_28) (hv := rfl) (k := ?_)
      refine mj_b_iald (hE := fe_82_29) (hM := hprp) (ht := Or.inr rfl) (hi := hix) (k := ?_)
      exact mj_b_retI (hE := fe_82_30) (hi := in_82) (by simp [c_prp, hi, g])
    · simp only [mj_cnd, Bool.not_eq_false', decide_eq_true_eq, pz_0] at g
      refine mj_b_iconst (hE := fe_82_20) (k := ?_)
      refine mj_b_goto (hE := fe_82_21) (k := ?_)
      exact mj_b_retI (hE := fe_82_30) (hi := in_82) (by simp [c_prp, hi, g])
/-- the k-th of those with f -/
def c_cvk (f : Nat → Bool) (tok : Nat → Int32) (k : Int32) : Nat → Nat → Int32 → Int32
  | _, 0, c => if k = -1 then c else -1
  | i, n + 1, c => if f i = true then (if c = k then tok i else c_cvk f tok k (i + 1) n (c + 1)) else c_cvk f tok k (i + 1) n c
set_option maxHeartbeats 2000000 in
theorem l83 {p k : Int32} (hs : c_st sn pi nr nl ex dp I R) (ht : c_top sn sx R) :
    ∀ (n i : Nat) (c : Int32), i + n = nl → mj_T pj_P 83 14 [.ref 1, .int p, .int k, .int c, .int (nI i)] [] (mz_SH L, I, R) (fun s => s = (some (.int (c_cvk (c_cov I sn dp p) (fun i => I (sn + 29 + i) 0) k i n c)), (mz_SH L, I, R))) := by
  obtain ⟨hb, hok, ⟨hn1, hn2⟩, ⟨hl1, hl2⟩, hlk⟩ := hs
  obtain ⟨ht1, ht2, ht3, ht4⟩ := ht
  have hS := sh_S L hb
  have hA := sh_K L hb
  have h1 := sh_1 L
  have hR := hok.2.1
  intro n
  induction n with
  | zero =>
    intro i c hi
    have hin : i = nl := by omega
    subst hin
    refine mj_b_iload (hE := fe_83_14) (hv := rfl) (k := ?_)
    refine mj_b_rload_n (hE := fe_83_16) (hv := rfl) (k := ?_)
    refine mj_b_getQ (hE := fe_83_17) (hM := by assumption) (hv := by assumption) (k := ?_)
    refine mj_b_getV (hE := fe_83_20) (hM := by assumption) (hv := by assumption) (k := ?_)
    refine mj_b_if2 (hE := fe_83_23) (kt := fun h => ?_) (kf := fun h => ?_)
    · refine mj_b_iload_n (hE := fe_83_71) (hv := rfl) (k := ?_)
      refine mj_b_iconst (hE := fe_83_72) (k := ?_)
      refine mj_b_if2 (hE := fe_83_73) (kt := fun h73 => ?_) (kf := fun h73 => ?_)
      · simp only [mj_cnd, decide_eq_true_eq, decide_eq_false_iff_not, Bool.not_eq_true', Bool.not_eq_false', pz_0, Bool.not_eq_false, Bool.not_eq_true] at h73
        refine mj_b_iconst (hE := fe_83_80) (k := ?_)
        exact mj_b_retI (hE := fe_83_81) (hi := in_83) (by first | (simp [c_cvk, pz, h73]; done) | (simp_all [c_cvk, pz]; done) | rfl)
      · simp only [mj_cnd, decide_eq_true_eq, decide_eq_false_iff_not, Bool.not_eq_true', Bool.not_eq_false', pz_0, Bool.not_eq_false, Bool.not_eq_true] at h73
        refine mj_b_iload_n (hE := fe_83_76) (hv := rfl) (k := ?_)
        refine mj_b_goto (hE := fe_83_77) (k := ?_)
        exact mj_b_retI (hE := fe_83_81) (hi := in_83) (by first | (simp [c_cvk, pz, h73]; done) | (simp_all [c_cvk, pz]; done) | rfl)
    · simp [mj_cnd] at h
  | succ n ih =>
    intro i c hi
    have hi6 : i < 6 := by omega
    have hr1 := hok.2.2.2.1 i hi6
    have hC := sh_L L hb hi6
    obtain ⟨hx1, hx2⟩ := hlk i (by omega)
    have hnx : ∀ Q c, mj_T pj_P 83 14 [.ref 1, .int p, .int k, .int c, .int (nI (i + 1))] [] (mz_SH L, I, R) Q → mj_T pj_P 83 65 [.ref 1, .int p, .int k, .int c, .int (nI i)] [] (mz_SH L, I, R) Q := by
      intro Q c hQ
      refine mj_b_iinc (hE := fe_83_65) (hv := rfl) (k := ?_)
      refine mj_b_goto (hE := fe_83_68) (k := ?_)
      exact (show mj_T pj_P 83 14 [.ref 1, .int p, .int k, .int c, .int (nI i + 1)] [] (mz_SH L, I, R) Q from (nI_succ i) ▸ hQ)
    refine mj_b_iload (hE := fe_83_14) (hv := rfl) (k := ?_)
    refine mj_b_rload_n (hE := fe_83_16) (hv := rfl) (k := ?_)
    refine mj_b_getQ (hE := fe_83_17) (hM := by assumption) (hv := by assumption) (k := ?_)
    refine mj_b_getV (hE := fe_83_20) (hM := by assumption) (hv := by assumption) (k := ?_)
    refine mj_b_if2 (hE := fe_83_23) (kt := fun h => ?_) (kf := fun h => ?_)
    · simp only [mj_cnd, decide_eq_true_eq] at h
      exact absurd h (nI_ge (by omega) (by omega))
    · refine mj_b_rload_n (hE := fe_83_26) (hv := rfl) (k := ?_)
      refine mj_b_getQ (hE := fe_83_27) (hM := by assumption) (hv := by assumption) (k := ?_)
      refine mj_b_getQ (hE := fe_83_30) (hM := by assumption) (hv := by assumption) (k := ?_)
      refine mj_b_iload (hE := fe_83_33) (hv := rfl) (k := ?_)
      refine mj_b_aaldQ (hE := fe_83_35) (hM := by assumption) (ht := by decide) (hj := rfl) (hc := by omega) (hn := by decide) (hv := by assumption) (k := ?_)
      refine mj_b_iload_n (hE := fe_83_36) (hv := rfl) (k := ?_)
      refine mj_b_callR (hE := fe_83_37) (hi := in_25) (h1 := g25 _ hC hx2) (hc := mj_cok_v rfl rfl (by assumption)) (ha := rfl) (hr := rfl) ?_
      refine mj_b_if1 (hE := fe_83_40) (kt := fun h40 => ?_) (kf := fun h40 => ?_)
      · simp only [mj_cnd, decide_eq_true_eq, decide_eq_false_iff_not, Bool.not_eq_true', Bool.not_eq_false', pz_0, Bool.not_eq_false, Bool.not_eq_true] at h40
        exact hnx _ _ ((ih (i + 1) _ (by omega)).mono (fun s hs => by rw [hs]; simp [c_cvk, c_cov, h40]))
      · simp only [mj_cnd, decide_eq_true_eq, decide_eq_false_iff_not, Bool.not_eq_true', Bool.not_eq_false', pz_0, Bool.not_eq_false, Bool.not_eq_true] at h40
        refine mj_b_iload_n (hE := fe_83_43) (hv := rfl) (k := ?_)
        refine mj_b_iload_n (hE := fe_83_44) (hv := rfl) (k := ?_)
        refine mj_b_if2 (hE := fe_83_45) (kt := fun h45 => ?_) (kf := fun h45 => ?_)
        · simp only [mj_cnd, decide_eq_true_eq, decide_eq_false_iff_not, Bool.not_eq_true', Bool.not_eq_false', pz_0, Bool.not_eq_false, Bool.not_eq_true] at h45
          refine mj_b_iinc (hE := fe_83_62) (hv := rfl) (k := ?_)
          exact hnx _ _ ((ih (i + 1) _ (by omega)).mono (fun s hs => by rw [hs]; simp [c_cvk, c_cov, h40, h45]))
        · simp only [mj_cnd, decide_eq_true_eq, decide_eq_false_iff_not, Bool.not_eq_true', Bool.not_eq_false', pz_0, Bool.not_eq_false, Bool.not_eq_true] at h45
          refine mj_b_rload_n (hE := fe_83_48) (hv := rfl) (k := ?_)
          refine mj_b_getQ (hE := fe_83_49) (hM := by assumption) (hv := by assumption) (k := ?_)
          refine mj_b_getQ (hE := fe_83_52) (hM := by assumption) (hv := by assumption) (k := ?_)
          refine mj_b_iload (hE := fe_83_55) (hv := rfl) (k := ?_)
          refine mj_b_aaldQ (hE := fe_83_57) (hM := by assumption) (ht := by decide) (hj := rfl) (hc := by omega) (hn := by decide) (hv := by assumption) (k := ?_)
          refine mj_b_getV (hE := fe_83_58) (hM := hC) (hv := rfl) (k := ?_)
          exact mj_b_retI (hE := fe_83_61) (hi := in_83) (by first | (simp [c_cvk, c_cov, pz, h40, h45]; done) | (simp_all [c_cvk, c_cov, pz]; done) | rfl)
def c_cvg (I : Nat → Nat → Int32) (b : Nat) (dp : Nat → Bool) (nl : Nat) (p k : Int32) : Int32 := if pf_path p = true then c_cvk (c_cov I b dp p) (fun i => I (b + 29 + i) 0) k 0 nl 0 else -1
/-- LockedTree.covering -/
theorem g83 (p k : Int32) (hs : c_st sn pi nr nl ex dp I R) (ht : c_top sn sx R) :
    mj_G pj_P 83 [.ref 1, .int p, .int k] (mz_SH L, I, R) (fun r => r = (some (.int (c_cvg I sn dp nl p k)), (mz_SH L, I, R))) := by
  refine mj_enter in_83 (L := [.ref 1, .int p, .int k, .retAddr 0, .retAddr 0]) rfl ?_
  refine mj_b_iload_n (hE := fe_83_0) (hv := rfl) (k := ?_)
  refine mj_b_callR (hE := fe_83_1) (hi := in_14) (h1 := g14 _ _) (hc := mj_cok_s rfl) (ha := rfl) (hr := rfl) ?_
  refine mj_b_if1 (hE := fe_83_4) (kt := fun h4 => ?_) (kf := fun h4 => ?_)
  · simp only [mj_cnd, decide_eq_true_eq, decide_eq_false_iff_not, Bool.not_eq_true', Bool.not_eq_false', pz_0, Bool.not_eq_false, Bool.not_eq_true] at h4
    refine mj_b_iconst (hE := fe_83_9) (k := ?_)
    refine mj_b_istore_n (hE := fe_83_10) (hx := Nat.le_of_ble_eq_true rfl) (k := ?_)
    refine mj_b_iconst (hE := fe_83_11) (k := ?_)
    refine mj_b_istore (hE := fe_83_12) (hx := Nat.le_of_ble_eq_true rfl) (k := ?_)
    exact (l83 hs ht nl 0 0 (by omega)).mono (fun s hs => by rw [hs]; simp [c_cvg, h4])
  · simp only [mj_cnd, decide_eq_true_eq, decide_eq_false_iff_not, Bool.not_eq_true', Bool.not_eq_false', pz_0, Bool.not_eq_false, Bool.not_eq_true] at h4
    refine mj_b_iconst (hE := fe_83_7) (k := ?_)
    exact mj_b_retI (hE := fe_83_8) (hi := in_83) (by first | (simp [c_cvg, pz, h4]; done) | (simp_all [c_cvg, pz]; done) | rfl)
def c_lkv (I : Nat → Nat → Int32) (a : Nat) (ex dp : Bool) : Int64 := (I a 2).toInt64 * Int64.ofInt 16384 + Int64.ofInt 4 * (I a 1).toInt64 + (if dp = true then (2 : Int32) else 0).toInt64 + (if ex = true then (1 : Int32) else 0).toInt64
def c_lko (I : Nat → Nat → Int32) (b : Nat) (ex dp : Nat → Bool) (nl : Nat) (t : Int32) : Int64 := match cl_fnd I b t 0 nl with
  | some i => c_lkv I (b + 29 + i) (ex i) (dp i)
  | none => Int64.ofInt (-1)
set_option maxHeartbeats 1000000 in
/-- LockedTree.lockOf -/
theorem g84 (t : Int32) (hs : c_st sn pi nr nl ex dp I R) (ht : c_top sn sx R) :
    mj_G pj_P 84 [.ref 1, .int t] (mz_SH L, I, R) (fun r => r = (some (.long (c_lko I sn ex dp nl t)), (mz_SH L, I, R))) := by
  have h1 := sh_1 L
  have hS := sh_S L hs.1
  have ht1 := ht.1
  refine mj_enter in_84 (L := [.ref 1, .int t, .retAddr 0]) rfl ?_
  refine mj_b_rload_n (hE := fe_84_0) (hv := rfl) (k := ?_)
  refine mj_b_getQ (hE := fe_84_1) (hM := by assumption) (hv := by assumption) (k := ?_)
  refine mj_b_iload_n (hE := fe_84_4) (hv := rfl) (k := ?_)
  refine mj_b_callR (hE := fe_84_5) (hi := in_24) (h1 := g24 t hs.1 hs.2.1 hs.2.2.2.1.1 hs.2.2.2.1.2) (hc := mj_cok_v rfl rfl hS) (ha := rfl) (hr := rfl) ?_
  generalize hv : (cl_fnd I sn t 0 nl).map (fun i => sn + 29 + i) = v
  refine mj_b_astore_n (hE := fe_84_8) (hx := Nat.le_of_ble_eq_true rfl) (k := ?_)
  refine mj_b_aload_n (hE := fe_84_9) (hv := rfl) (k := ?_)
  refine mj_b_nnul (hE := fe_84_10) (kn := fun h => ?_) (ks := fun ha h => ?_)
  · subst h
    simp only [Option.map_eq_none_iff] at hv
    refine mj_b_ldc2 (hE := fe_84_13) (k := ?_)
    exact mj_b_retL (hE := fe_84_16) (hi := in_84) (by simp [c_lko, hv])
  · subst h
    obtain ⟨i, hi, hia⟩ := Option.map_eq_some_iff.mp hv
    have hlt := cl_fnd_lt _ _ hi
    have hl2 := hs.2.2.2.1.2
    have hrow := sh_L L hs.1 (show i < 6 by omega)
    obtain ⟨hx1, hx2⟩ := hs.2.2.2.2 i (by omega)
    subst hia
    refine mj_b_rload_n (hE := fe_84_17) (hv := rfl) (k := ?_)
    refine mj_b_getV (hE := fe_84_18) (hM := hrow) (hv := rfl) (k := ?_)
    refine mj_b_i2l (hE := fe_84_21) (k := ?_)
    refine mj_b_ldc2 (hE := fe_84_22) (k := ?_)
    refine mj_b_lmul (hE := fe_84_25) (k := ?_)
    refine mj_b_ldc2 (hE := fe_84_26) (k := ?_)
    refine mj_b_rload_n (hE := fe_84_29) (hv := rfl) (k := ?_)
    refine mj_b_getV (hE := fe_84_30) (hM := hrow) (hv := rfl) (k := ?_)
    refine mj_b_i2l (hE := fe_84_33) (k := ?_)
    refine mj_b_lmul (hE := fe_84_34) (k := ?_)
    refine mj_b_ladd (hE := fe_84_35) (k := ?_)
    refine mj_b_rload_n (hE := fe_84_36) (hv := rfl) (k := ?_)
    refine mj_b_getV (hE := fe_84_37) (hM := by assumption) (hv := by assumption) (k := ?_)
    refine mj_b_if1 (hE := fe_84_40) (kt := fun h40 => ?_) (kf := fun h40 => ?_)
    · simp only [mj_cnd, decide_eq_true_eq, decide_eq_false_iff_not, Bool.not_eq_true', Bool.not_eq_false', pz_0, Bool.not_eq_false, Bool.not_eq_true] at h40
      refine mj_b_iconst (hE := fe_84_47) (k := ?_)
      refine mj_b_i2l (hE := fe_84_48) (k := ?_)
      refine mj_b_ladd (hE := fe_84_49) (k := ?_)
      refine mj_b_rload_n (hE := fe_84_50) (hv := rfl) (k := ?_)
      refine mj_b_getV (hE := fe_84_51) (hM := by assumption) (hv := by assumption) (k := ?_)
      refine mj_b_if1 (hE := fe_84_54) (kt := fun h54 => ?_) (kf := fun h54 => ?_)
      · simp only [mj_cnd, decide_eq_true_eq, decide_eq_false_iff_not, Bool.not_eq_true', Bool.not_eq_false', pz_0, Bool.not_eq_false, Bool.not_eq_true] at h54
        refine mj_b_iconst (hE := fe_84_61) (k := ?_)
        refine mj_b_i2l (hE := fe_84_62) (k := ?_)
        refine mj_b_ladd (hE := fe_84_63) (k := ?_)
        exact mj_b_retL (hE := fe_84_64) (hi := in_84) (by first | (simp [c_lko, c_lkv, hi, pz, h40, h54]; done) | (simp_all [c_lko, c_lkv, hi, pz]; done) | rfl)
      · simp only [mj_cnd, decide_eq_true_eq, decide_eq_false_iff_not, Bool.not_eq_true', Bool.not_eq_false', pz_0, Bool.not_eq_false, Bool.not_eq_true] at h54
        refine mj_b_iconst (hE := fe_84_57) (k := ?_)
        refine mj_b_goto (hE := fe_84_58) (k := ?_)
        refine mj_b_i2l (hE := fe_84_62) (k := ?_)
        refine mj_b_ladd (hE := fe_84_63) (k := ?_)
        exact mj_b_retL (hE := fe_84_64) (hi := in_84) (by first | (simp [c_lko, c_lkv, hi, pz, h40, h54]; done) | (simp_all [c_lko, c_lkv, hi, pz]; done) | rfl)
    · simp only [mj_cnd, decide_eq_true_eq, decide_eq_false_iff_not, Bool.not_eq_true', Bool.not_eq_false', pz_0, Bool.not_eq_false, Bool.not_eq_true] at h40
      refine mj_b_iconst (hE := fe_84_43) (k := ?_)
      refine mj_b_goto (hE := fe_84_44) (k := ?_)
      refine mj_b_i2l (hE := fe_84_48) (k := ?_)
      refine mj_b_ladd (hE := fe_84_49) (k := ?_)
      refine mj_b_rload_n (hE := fe_84_50) (hv := rfl) (k := ?_)
      refine mj_b_getV (hE := fe_84_51) (hM := by assumption) (hv := by assumption) (k := ?_)
      refine mj_b_if1 (hE := fe_84_54) (kt := fun h54 => ?_) (kf := fun h54 => ?_)
      · simp only [mj_cnd, decide_eq_true_eq, decide_eq_false_iff_not, Bool.not_eq_true', Bool.not_eq_false', pz_0, Bool.not_eq_false, Bool.not_eq_true] at h54
        refine mj_b_iconst (hE := fe_84_61) (k := ?_)
        refine mj_b_i2l (hE := fe_84_62) (k := ?_)
        refine mj_b_ladd (hE := fe_84_63) (k := ?_)
        exact mj_b_retL (hE := fe_84_64) (hi := in_84) (by first | (simp [c_lko, c_lkv, hi, pz, h40, h54]; done) | (simp_all [c_lko, c_lkv, hi, pz]; done) | rfl)
      · simp only [mj_cnd, decide_eq_true_eq, decide_eq_false_iff_not, Bool.not_eq_true', Bool.not_eq_false', pz_0, Bool.not_eq_false, Bool.not_eq_true] at h54
        refine mj_b_iconst (hE := fe_84_57) (k := ?_)
        refine mj_b_goto (hE := fe_84_58) (k := ?_)
        refine mj_b_i2l (hE := fe_84_62) (k := ?_)
        refine mj_b_ladd (hE := fe_84_63) (k := ?_)
        exact mj_b_retL (hE := fe_84_64) (hi := in_84) (by first | (simp [c_lko, c_lkv, hi, pz, h40, h54]; done) | (simp_all [c_lko, c_lkv, hi, pz]; done) | rfl)
/-- LockedTree.writes -/
theorem g86 : mj_G pj_P 86 [.ref 1] (mz_SH L, I, R) (fun r => r = (some (.int (I 1 4)), (mz_SH L, I, R))) := by
  have h1 := sh_1 L
  refine mj_enter in_86 (L := [.ref 1]) rfl ?_
  refine mj_b_rload_n (hE := fe_86_0) (hv := rfl) (k := ?_)
  refine mj_b_getV (hE := fe_86_1) (hM := h1) (hv := rfl) (k := ?_)
  exact mj_b_retI (hE := fe_86_4) (hi := in_86) rfl
def c_mul (I : Nat → Nat → Int32) (mc : Nat) (k : Int32) : Int32 := if k = -1 then nI mc else if pf_from k 0 (nI mc - 1) = true then I 86 k.toNatClampNeg else -1
/-- LockedTree.multi -/
theorem g85 {mc : Nat} (k : Int32) (ht : c_top sn sx R) (hm : I 1 6 = nI mc) (hm12 : mc ≤ 12) :
    mj_G pj_P 85 [.ref 1, .int k] (mz_SH L, I, R) (fun r => r = (some (.int (c_mul I mc k)), (mz_SH L, I, R))) := by
  have h1 := sh_1 L
  have h86 := sh_86 L
  have ht4 := ht.2.2.2
  refine mj_enter in_85 (L := [.ref 1, .int k]) rfl ?_
  refine mj_b_iload_n (hE := fe_85_0) (hv := rfl) (k := ?_)
  refine mj_b_iconst (hE := fe_85_1) (k := ?_)
  refine mj_b_if2 (hE := fe_85_2) (kt := fun h => ?_) (kf := fun h => ?_)
  · simp only [mj_cnd, Bool.not_eq_true', decide_eq_false_iff_not] at h
    refine mj_b_iload_n (hE := fe_85_10) (hv := rfl) (k := ?_)
    refine mj_b_iconst (hE := fe_85_11) (k := ?_)
    refine mj_b_rload_n (hE := fe_85_12) (hv := rfl) (k := ?_)
    refine mj_b_getV (hE := fe_85_13) (hM := by assumption) (hv := by assumption) (k := ?_)
    refine mj_b_iconst (hE := fe_85_16) (k := ?_)
    refine mj_b_isub (hE := fe_85_17) (k := ?_)
    refine mj_b_callR (hE := fe_85_18) (hi := in_17) (h1 := g17 _ _ _ _) (hc := mj_cok_s rfl) (ha := rfl) (hr := rfl) ?_
    refine mj_b_if1 (hE := fe_85_21) (kt := fun g => ?_) (kf := fun g => ?_)
    · simp only [mj_cnd, decide_eq_true_eq, pz_0] at g
      refine mj_b_iconst (hE := fe_85_33) (k := ?_)
      exact mj_b_retI (hE := fe_85_34) (hi := in_85) (by simp [c_mul, h, g])
    · simp only [mj_cnd, decide_eq_false_iff_not, pz_0, Bool.not_eq_false] at g
      obtain ⟨c, hc, hk⟩ := from_nI (by omega) g
      have hix : mj_ix k 12 = true := by rw [hk]; exact mj_ix_nI (by omega) (by decide)
      refine mj_b_rload_n (hE := fe_85_24) (hv := rfl) (k := ?_)
      refine mj_b_getQ (hE := fe_85_25) (hM := by assumption) (hv := by assumption) (k := ?_)
      refine mj_b_iload_n (hE := fe_85_28) (hv := rfl) (k := ?_)
      refine mj_b_iald (hE := fe_85_29) (hM := h86) (ht := Or.inr rfl) (hi := hix) (k := ?_)
      refine mj_b_goto (hE := fe_85_30) (k := ?_)
      exact mj_b_retI (hE := fe_85_34) (hi := in_85) (by simp [c_mul, h, g])
  · simp only [mj_cnd, Bool.not_eq_false', decide_eq_true_eq] at h
    refine mj_b_rload_n (hE := fe_85_5) (hv := rfl) (k := ?_)
    refine mj_b_getV (hE := fe_85_6) (hM := by assumption) (hv := by assumption) (k := ?_)
    exact mj_b_retI (hE := fe_85_9) (hi := in_85) (by simp [c_mul, h])
def c_lst (I : Nat → Nat → Int32) (b : Nat) (pi : Nat → Nat) (nr : Nat) (k : Int32) : Int32 := if k = -1 then nI nr - 1 else if pf_from k 0 (nI nr - 1 - 1) = true then c_rowP I b pi (k.toNatClampNeg + 1) else -1
/-- LockedTree.listing -/
theorem g87 (k : Int32) (hs : c_st sn pi nr nl ex dp I R) (ht : c_top sn sx R) (hnr : 1 ≤ nr) :
    mj_G pj_P 87 [.ref 1, .int k] (mz_SH L, I, R) (fun r => r = (some (.int (c_lst I sn pi nr k)), (mz_SH L, I, R))) := by
  have h1 := sh_1 L
  have hS := sh_S L hs.1
  have hA := sh_A L hs.1
  have hR := hs.2.1.1
  have ht1 := ht.1
  obtain ⟨hn1, hn2⟩ := hs.2.2.1
  refine mj_enter in_87 (L := [.ref 1, .int k, .retAddr 0]) rfl ?_
  refine mj_b_rload_n (hE := fe_87_0) (hv := rfl) (k := ?_)
  refine mj_b_getQ (hE := fe_87_1) (hM := by assumption) (hv := by assumption) (k := ?_)
  refine mj_b_getV (hE := fe_87_4) (hM := by assumption) (hv := by assumption) (k := ?_)
  refine mj_b_iconst (hE := fe_87_7) (k := ?_)
  refine mj_b_isub (hE := fe_87_8) (k := ?_)
  refine mj_b_istore_n (hE := fe_87_9) (hx := Nat.le_of_ble_eq_true rfl) (k := ?_)
  refine mj_b_iload_n (hE := fe_87_10) (hv := rfl) (k := ?_)
  refine mj_b_iconst (hE := fe_87_11) (k := ?_)
  refine mj_b_if2 (hE := fe_87_12) (kt := fun h => ?_) (kf := fun h => ?_)
  · simp only [mj_cnd, Bool.not_eq_true', decide_eq_false_iff_not] at h
    refine mj_b_iload_n (hE := fe_87_17) (hv := rfl) (k := ?_)
    refine mj_b_iconst (hE := fe_87_18) (k := ?_)
    refine mj_b_iload_n (hE := fe_87_19) (hv := rfl) (k := ?_)
    refine mj_b_iconst (hE := fe_87_20) (k := ?_)
    refine mj_b_isub (hE := fe_87_21) (k := ?_)
    refine mj_b_callR (hE := fe_87_22) (hi := in_17) (h1 := g17 _ _ _ _) (hc := mj_cok_s rfl) (ha := rfl) (hr := rfl) ?_
    refine mj_b_if1 (hE := fe_87_25) (kt := fun g => ?_) (kf := fun g => ?_)
    · simp only [mj_cnd, decide_eq_true_eq, pz_0] at g
      refine mj_b_iconst (hE := fe_87_45) (k := ?_)
      exact mj_b_retI (hE := fe_87_46) (hi := in_87) (by simp [c_lst, h, g])
    · simp only [mj_cnd, decide_eq_false_iff_not, pz_0, Bool.not_eq_false] at g
      obtain ⟨m, rfl⟩ : ∃ m, nr = m + 1 := ⟨nr - 1, by omega⟩
      have g2 := g
      rw [nI_pred] at g2
      obtain ⟨c, hc, hk⟩ := from_nI (by omega) g2
      obtain ⟨hr1, hr2⟩ := hs.2.1.2.2.1 (c + 1) (by omega)
      have hC := sh_R L hs.1 hr2
      refine mj_b_rload_n (hE := fe_87_28) (hv := rfl) (k := ?_)
      refine mj_b_getQ (hE := fe_87_29) (hM := by assumption) (hv := by assumption) (k := ?_)
      refine mj_b_getQ (hE := fe_87_32) (hM := by assumption) (hv := by assumption) (k := ?_)
      refine mj_b_iload_n (hE := fe_87_35) (hv := rfl) (k := ?_)
      refine mj_b_iconst (hE := fe_87_36) (k := ?_)
      refine mj_b_iadd (hE := fe_87_37) (k := ?_)
      refine mj_b_aaldQ (hE := fe_87_38) (hM := hA) (ht := by decide) (hj := by rw [hk, nI_succ]) (hc := show c + 1 < 13 by omega) (hn := by decide) (hv := hr1) (k := ?_)
      refine mj_b_getV (hE := fe_87_39) (hM := hC) (hv := rfl) (k := ?_)
      refine mj_b_goto (hE := fe_87_42) (k := ?_)
      exact mj_b_retI (hE := fe_87_46) (hi := in_87) (by simp [c_lst, h, g, c_rowP, cs_row]; rw [hk, nI_clamp (by omega)])
  · simp only [mj_cnd, Bool.not_eq_false', decide_eq_true_eq] at h
    refine mj_b_iload_n (hE := fe_87_15) (hv := rfl) (k := ?_)
    exact mj_b_retI (hE := fe_87_16) (hi := in_87) (by simp [c_lst, h])
end QU
