/-! ===== the class: the header's conditions; further refusals ===== -/
theorem cl_fnd_lt {I : Nat → Nat → Int32} {b : Nat} {t : Int32} {j : Nat} : ∀ (k i : Nat), cl_fnd I b t i k = some j → i ≤ j ∧ j < i + k ∧ I (b + 29 + j) 0 = t := by
  intro k
  induction k with
  | zero => intro i h; simp [cl_fnd] at h
  | succ k ih =>
    intro i h
    simp only [cl_fnd] at h
    split at h
    · rename_i h1
      cases h
      exact ⟨Nat.le_refl _, by omega, h1⟩
    · obtain ⟨a1, a2, a3⟩ := ih (i + 1) h
      exact ⟨by omega, by omega, a3⟩
section HO
variable {L b sn sx nr nl nc : Nat} {pi : Nat → Nat} {ex dp al ng : Nat → Bool} {I : Nat → Nat → Int32} {R : Nat → Nat → Option Nat}
def cc_cov (I : Nat → Nat → Int32) (b : Nat) (dp : Nat → Bool) (nl : Nat) (num p : Int32) : Bool := match cl_fnd I b num 0 nl with
  | some j => c_cov I b dp p j
  | none => false
/-- Condition.isCovered -/
theorem g23 {a : Nat} {num : Int32} (p : Int32) (hM : (mz_SH L)[a]? = some (5, 5)) (hnum : I a 4 = num) (hs : c_st b pi nr nl ex dp I R) :
    mj_G pj_P 23 [.ref a, .ref b, .int p] (mz_SH L, I, R) (fun r => r = (some (.int (pz (cc_cov I b dp nl num p))), (mz_SH L, I, R))) := by
  have hS := sh_S L hs.1
  refine mj_enter in_23 (L := [.ref a, .ref b, .int p, .retAddr 0]) rfl ?_
  refine mj_b_rload_n (hE := fe_23_0) (hv := rfl) (k := ?_)
  refine mj_b_rload_n (hE := fe_23_1) (hv := rfl) (k := ?_)
  refine mj_b_getV (hE := fe_23_2) (hM := by assumption) (hv := by assumption) (k := ?_)
  refine mj_b_callR (hE := fe_23_5) (hi := in_24) (h1 := g24 num hs.1 hs.2.1 hs.2.2.2.1.1 hs.2.2.2.1.2) (hc := mj_cok_v rfl rfl hS) (ha := rfl) (hr := rfl) ?_
  generalize hv : (cl_fnd I b num 0 nl).map (fun i => b + 29 + i) = v
  refine mj_b_astore_n (hE := fe_23_8) (hx := Nat.le_of_ble_eq_true rfl) (k := ?_)
  refine mj_b_aload_n (hE := fe_23_9) (hv := rfl) (k := ?_)
  refine mj_b_nul (hE := fe_23_10) (kn := fun h => ?_) (ks := fun ha h => ?_)
  · subst h
    simp only [Option.map_eq_none_iff] at hv
    refine mj_b_iconst (hE := fe_23_25) (k := ?_)
    exact mj_b_retZ (hE := fe_23_26) (hi := in_23) (Or.inl rfl) (by simp [cc_cov, pz, hv])
  · subst h
    obtain ⟨i, hi, hia⟩ := Option.map_eq_some_iff.mp hv
    have hlt := cl_fnd_lt _ _ hi
    have hnl := hs.2.2.2.1.2
    have hrow := sh_L L hs.1 (show i < 6 by omega)
    have hd := (hs.2.2.2.2 i (by omega)).2
    subst hia
    refine mj_b_rload_n (hE := fe_23_13) (hv := rfl) (k := ?_)
    refine mj_b_iload_n (hE := fe_23_14) (hv := rfl) (k := ?_)
    refine mj_b_callR (hE := fe_23_15) (hi := in_25) (h1 := g25 _ hrow hd) (hc := mj_cok_v rfl rfl (by assumption)) (ha := rfl) (hr := rfl) ?_
    refine mj_b_if1 (hE := fe_23_18) (kt := fun h18 => ?_) (kf := fun h18 => ?_)
    · simp only [mj_cnd, decide_eq_true_eq, decide_eq_false_iff_not, Bool.not_eq_true', Bool.not_eq_false', pz_0, Bool.not_eq_false, Bool.not_eq_true] at h18
      refine mj_b_iconst (hE := fe_23_25) (k := ?_)
      exact mj_b_retZ (hE := fe_23_26) (hi := in_23) (by first | decide | exact pz_01 _) (by first | (simp [cc_cov, c_cov, hi, pz, h18]; done) | (simp_all [cc_cov, c_cov, hi, pz]; done) | rfl)
    · simp only [mj_cnd, decide_eq_true_eq, decide_eq_false_iff_not, Bool.not_eq_true', Bool.not_eq_false', pz_0, Bool.not_eq_false, Bool.not_eq_true] at h18
      refine mj_b_iconst (hE := fe_23_21) (k := ?_)
      refine mj_b_goto (hE := fe_23_22) (k := ?_)
      exact mj_b_retZ (hE := fe_23_26) (hi := in_23) (by first | decide | exact pz_01 _) (by first | (simp [cc_cov, c_cov, hi, pz, h18]; done) | (simp_all [cc_cov, c_cov, hi, pz]; done) | rfl)
def cc_stp (I : Nat → Nat → Int32) (b : Nat) (pi : Nat → Nat) (nr : Nat) (num p : Int32) : Bool := match cs_fnd I b pi p 0 nr with
  | some j => decide (I (cs_row b pi j) 3 = num)
  | none => false
/-- Condition.isStamped -/
theorem g27 {a : Nat} {num : Int32} (p : Int32) (hM : (mz_SH L)[a]? = some (5, 5)) (hnum : I a 4 = num) (hs : c_st b pi nr nl ex dp I R) :
    mj_G pj_P 27 [.ref a, .ref b, .int p] (mz_SH L, I, R) (fun r => r = (some (.int (pz (cc_stp I b pi nr num p))), (mz_SH L, I, R))) := by
  have hS := sh_S L hs.1
  refine mj_enter in_27 (L := [.ref a, .ref b, .int p, .retAddr 0]) rfl ?_
  refine mj_b_rload_n (hE := fe_27_0) (hv := rfl) (k := ?_)
  refine mj_b_iload_n (hE := fe_27_1) (hv := rfl) (k := ?_)
  refine mj_b_callR (hE := fe_27_2) (hi := in_28) (h1 := g28 p hs.1 hs.2.1 hs.2.2.1.1 hs.2.2.1.2) (hc := mj_cok_v rfl rfl hS) (ha := rfl) (hr := rfl) ?_
  generalize hv : (cs_fnd I b pi p 0 nr).map (cs_row b pi) = v
  refine mj_b_astore_n (hE := fe_27_5) (hx := Nat.le_of_ble_eq_true rfl) (k := ?_)
  refine mj_b_aload_n (hE := fe_27_6) (hv := rfl) (k := ?_)
  refine mj_b_nul (hE := fe_27_7) (kn := fun h => ?_) (ks := fun ha h => ?_)
  · subst h
    simp only [Option.map_eq_none_iff] at hv
    refine mj_b_iconst (hE := fe_27_25) (k := ?_)
    exact mj_b_retZ (hE := fe_27_26) (hi := in_27) (Or.inl rfl) (by simp [cc_stp, pz, hv])
  · subst h
    obtain ⟨i, hi, hia⟩ := Option.map_eq_some_iff.mp hv
    have hlt := cs_fnd_lt _ _ hi
    have hn2 := hs.2.2.1.2
    have hrow : (mz_SH L)[cs_row b pi i]? = some (2, 5) := sh_R L hs.1 (hs.2.1.2.2.1 i (by omega)).2
    subst hia
    refine mj_b_rload_n (hE := fe_27_10) (hv := rfl) (k := ?_)
    refine mj_b_getV (hE := fe_27_11) (hM := hrow) (hv := rfl) (k := ?_)
    refine mj_b_rload_n (hE := fe_27_14) (hv := rfl) (k := ?_)
    refine mj_b_getV (hE := fe_27_15) (hM := by assumption) (hv := by assumption) (k := ?_)
    refine mj_b_if2 (hE := fe_27_18) (kt := fun h18 => ?_) (kf := fun h18 => ?_)
    · simp only [mj_cnd, decide_eq_true_eq, decide_eq_false_iff_not, Bool.not_eq_true', Bool.not_eq_false', pz_0, Bool.not_eq_false, Bool.not_eq_true] at h18
      refine mj_b_iconst (hE := fe_27_25) (k := ?_)
      exact mj_b_retZ (hE := fe_27_26) (hi := in_27) (by first | decide | exact pz_01 _) (by first | (simp [cc_stp, hi, pz, h18]; done) | (simp_all [cc_stp, hi, pz]; done) | rfl)
    · simp only [mj_cnd, decide_eq_true_eq, decide_eq_false_iff_not, Bool.not_eq_true', Bool.not_eq_false', pz_0, Bool.not_eq_false, Bool.not_eq_true] at h18
      refine mj_b_iconst (hE := fe_27_21) (k := ?_)
      refine mj_b_goto (hE := fe_27_22) (k := ?_)
      exact mj_b_retZ (hE := fe_27_26) (hi := in_27) (by first | decide | exact pz_01 _) (by first | (simp [cc_stp, hi, pz, h18]; done) | (simp_all [cc_stp, hi, pz]; done) | rfl)
/-- a condition's answer -/
def cc_hold (I : Nat → Nat → Int32) (b : Nat) (pi : Nat → Nat) (dp : Nat → Bool) (nr nl : Nat) (al ng : Bool) (a : Nat) (p : Int32) : Bool :=
  (if al = true then cc_cov I b dp nl (I a 4) (if I a 1 = -1 then p else I a 1) else cc_stp I b pi nr (I a 4) (if I a 1 = -1 then p else I a 1)) != ng
/-- Condition.holds, from where the path is known -/
theorem l22 {a : Nat} {al1 ng1 : Bool} (p q : Int32) (hM : (mz_SH L)[a]? = some (5, 5)) (hal : I a 2 = pz al1) (hng : I a 3 = pz ng1) (hs : c_st b pi nr nl ex dp I R) :
    mj_T pj_P 22 17 [.ref a, .ref b, .int p, .int q, .retAddr 0] [] (mz_SH L, I, R) (fun r => r = (some (.int (pz ((if al1 = true then cc_cov I b dp nl (I a 4) q else cc_stp I b pi nr (I a 4) q) != ng1))), (mz_SH L, I, R))) := by
  have h39 : ∀ (v : Bool) (st4 : Value), mj_T pj_P 22 39 [.ref a, .ref b, .int p, .int q, st4] [.int (pz v)] (mz_SH L, I, R) (fun r => r = (some (.int (pz (v != ng1))), (mz_SH L, I, R))) := by
    intro v st4
    refine mj_b_istore (hE := fe_22_39) (hx := Nat.le_of_ble_eq_true rfl) (k := ?_)
    refine mj_b_iload (hE := fe_22_41) (hv := rfl) (k := ?_)
    refine mj_b_rload_n (hE := fe_22_43) (hv := rfl) (k := ?_)
    refine mj_b_getV (hE := fe_22_44) (hM := by assumption) (hv := by assumption) (k := ?_)
    refine mj_b_if2 (hE := fe_22_47) (kt := fun h => ?_) (kf := fun h => ?_)
    · simp only [mj_cnd, decide_eq_true_eq] at h
      refine mj_b_iconst (hE := fe_22_54) (k := ?_)
      exact mj_b_retZ (hE := fe_22_55) (hi := in_22) (Or.inl rfl) (by cases v <;> cases ng1 <;> simp [pz] at h ⊢)
    · simp only [mj_cnd, decide_eq_false_iff_not] at h
      refine mj_b_iconst (hE := fe_22_50) (k := ?_)
      refine mj_b_goto (hE := fe_22_51) (k := ?_)
      exact mj_b_retZ (hE := fe_22_55) (hi := in_22) (Or.inr rfl) (by cases v <;> cases ng1 <;> simp [pz] at h ⊢)
  refine mj_b_rload_n (hE := fe_22_17) (hv := rfl) (k := ?_)
  refine mj_b_getV (hE := fe_22_18) (hM := by assumption) (hv := by assumption) (k := ?_)
  refine mj_b_if1 (hE := fe_22_21) (kt := fun h => ?_) (kf := fun h => ?_)
  · simp only [mj_cnd, decide_eq_true_eq, pz_0] at h
    refine mj_b_rload_n (hE := fe_22_33) (hv := rfl) (k := ?_)
    refine mj_b_rload_n (hE := fe_22_34) (hv := rfl) (k := ?_)
    refine mj_b_iload_n (hE := fe_22_35) (hv := rfl) (k := ?_)
    refine mj_b_callR (hE := fe_22_36) (hi := in_27) (h1 := g27 q hM rfl hs) (hc := mj_cok_v rfl rfl hM) (ha := rfl) (hr := rfl) ?_
    exact (h39 _ _).mono (fun s hs => by rw [hs]; simp [h])
  · simp only [mj_cnd, decide_eq_false_iff_not, pz_0, Bool.not_eq_false] at h
    refine mj_b_rload_n (hE := fe_22_24) (hv := rfl) (k := ?_)
    refine mj_b_rload_n (hE := fe_22_25) (hv := rfl) (k := ?_)
    refine mj_b_iload_n (hE := fe_22_26) (hv := rfl) (k := ?_)
    refine mj_b_callR (hE := fe_22_27) (hi := in_23) (h1 := g23 q hM rfl hs) (hc := mj_cok_v rfl rfl hM) (ha := rfl) (hr := rfl) ?_
    refine mj_b_goto (hE := fe_22_30) (k := ?_)
    exact (h39 _ _).mono (fun s hs => by rw [hs]; simp [h])
/-- Condition.holds -/
theorem g22 {a : Nat} {al1 ng1 : Bool} (p : Int32) (hM : (mz_SH L)[a]? = some (5, 5)) (hal : I a 2 = pz al1) (hng : I a 3 = pz ng1) (hs : c_st b pi nr nl ex dp I R) :
    mj_G pj_P 22 [.ref a, .ref b, .int p] (mz_SH L, I, R) (fun r => r = (some (.int (pz (cc_hold I b pi dp nr nl al1 ng1 a p))), (mz_SH L, I, R))) := by
  refine mj_enter in_22 (L := [.ref a, .ref b, .int p, .retAddr 0, .retAddr 0]) rfl ?_
  refine mj_b_rload_n (hE := fe_22_0) (hv := rfl) (k := ?_)
  refine mj_b_getV (hE := fe_22_1) (hM := hM) (hv := rfl) (k := ?_)
  refine mj_b_iconst (hE := fe_22_4) (k := ?_)
  refine mj_b_if2 (hE := fe_22_5) (kt := fun h => ?_) (kf := fun h => ?_)
  · simp only [mj_cnd, Bool.not_eq_true', decide_eq_false_iff_not] at h
    refine mj_b_rload_n (hE := fe_22_12) (hv := rfl) (k := ?_)
    refine mj_b_getV (hE := fe_22_13) (hM := hM) (hv := rfl) (k := ?_)
    refine mj_b_istore_n (hE := fe_22_16) (hx := Nat.le_of_ble_eq_true rfl) (k := ?_)
    exact (l22 p (I a 1) hM hal hng hs).mono (fun s hs => by rw [hs]; simp [cc_hold, h])
  · simp only [mj_cnd, Bool.not_eq_false', decide_eq_true_eq] at h
    refine mj_b_iload_n (hE := fe_22_8) (hv := rfl) (k := ?_)
    refine mj_b_goto (hE := fe_22_9) (k := ?_)
    refine mj_b_istore_n (hE := fe_22_16) (hx := Nat.le_of_ble_eq_true rfl) (k := ?_)
    exact (l22 p p hM hal hng hs).mono (fun s hs => by rw [hs]; simp [cc_hold, h])
/-- the lists in their order: f the conditions' answers, ls the numbers of their lists -/
def ch_hol (f : Nat → Bool) (ls : Nat → Int32) : Nat → Nat → Bool → Int32 → Bool
  | _, 0, lh, _ => lh
  | i, k + 1, lh, l => if ls i = l then ch_hol f ls (i + 1) k (lh && f i) l else if lh = true then true else ch_hol f ls (i + 1) k (f i) (ls i)
def ch_f (I : Nat → Nat → Int32) (b : Nat) (pi : Nat → Nat) (dp : Nat → Bool) (nr nl : Nat) (al ng : Nat → Bool) (p : Int32) (i : Nat) : Bool := cc_hold I b pi dp nr nl (al i) (ng i) (74 + i) p
set_option maxHeartbeats 2000000 in
theorem l21 (p : Int32) (hs : c_st b pi nr nl ex dp I R) (hh : c_hd nc al ng I R) :
    ∀ (k i : Nat) (lh : Bool) (l : Int32), i + k = nc → mj_T pj_P 21 8 [.ref 72, .ref b, .int p, .int (pz lh), .int l, .int (nI i)] [] (mz_SH L, I, R) (fun r => r = (some (.int (pz (ch_hol (ch_f I b pi dp nr nl al ng p) (fun i => I (74 + i) 0) i k lh l))), (mz_SH L, I, R))) := by
  obtain ⟨hc1, ⟨hc2, hc3⟩, hc4⟩ := hh
  have hS := sh_72 L
  have hA := sh_73 L
  have hR := hc1.1
  intro k
  induction k with
  | zero =>
    intro i lh l hi
    have hin : i = nc := by omega
    subst hin
    refine mj_b_iload (hE := fe_21_8) (hv := rfl) (k := ?_)
    refine mj_b_rload_n (hE := fe_21_10) (hv := rfl) (k := ?_)
    refine mj_b_getV (hE := fe_21_11) (hM := by assumption) (hv := by assumption) (k := ?_)
    refine mj_b_if2 (hE := fe_21_14) (kt := fun h => ?_) (kf := fun h => ?_)
    · refine mj_b_iload_n (hE := fe_21_83) (hv := rfl) (k := ?_)
      exact mj_b_retZ (hE := fe_21_84) (hi := in_21) (pz_01 _) rfl
    · simp [mj_cnd] at h
  | succ k ih =>
    intro i lh l hi
    have hi12 : i < 12 := by omega
    have hr1 := hc1.2 i hi12
    have hC := sh_C L hi12
    obtain ⟨hx1, hx2⟩ := hc4 i (by omega)
    have hnx : ∀ Q v l3 l', mj_T pj_P 21 8 [.ref 72, .ref b, .int p, .int v, .int l', .int (nI (i + 1))] [] (mz_SH L, I, R) Q → mj_T pj_P 21 76 [.ref 72, .ref b, .int p, l3, .int l', .int (nI i)] [.int v] (mz_SH L, I, R) Q := by
      intro Q v l3 l' hQ
      refine mj_b_istore_n (hE := fe_21_76) (hx := Nat.le_of_ble_eq_true rfl) (k := ?_)
      refine mj_b_iinc (hE := fe_21_77) (hv := rfl) (k := ?_)
      refine mj_b_goto (hE := fe_21_80) (k := ?_)
      exact (show mj_T pj_P 21 8 [.ref 72, .ref b, .int p, .int v, .int l', .int (nI i + 1)] [] (mz_SH L, I, R) Q from (nI_succ i) ▸ hQ)
    have h52 : ∀ (lh2 : Bool) (l2 : Int32), mj_T pj_P 21 52 [.ref 72, .ref b, .int p, .int (pz lh2), .int l2, .int (nI i)] [] (mz_SH L, I, R) (fun r => r = (some (.int (pz (ch_hol (ch_f I b pi dp nr nl al ng p) (fun i => I (74 + i) 0) (i + 1) k (lh2 && ch_f I b pi dp nr nl al ng p i) l2))), (mz_SH L, I, R))) := by
      intro lh2 l2
      refine mj_b_iload_n (hE := fe_21_52) (hv := rfl) (k := ?_)
      refine mj_b_if1 (hE := fe_21_53) (kt := fun h53 => ?_) (kf := fun h53 => ?_)
      · simp only [mj_cnd, decide_eq_true_eq, decide_eq_false_iff_not, Bool.not_eq_true', Bool.not_eq_false', pz_0, Bool.not_eq_false, Bool.not_eq_true] at h53
        refine mj_b_iconst (hE := fe_21_75) (k := ?_)
        exact hnx _ (pz false) _ _ ((ih (i + 1) false l2 (by omega)).mono (fun s hs => by rw [hs]; simp [ch_f, h53]))
      · simp only [mj_cnd, decide_eq_true_eq, decide_eq_false_iff_not, Bool.not_eq_true', Bool.not_eq_false', pz_0, Bool.not_eq_false, Bool.not_eq_true] at h53
        refine mj_b_rload_n (hE := fe_21_56) (hv := rfl) (k := ?_)
        refine mj_b_getQ (hE := fe_21_57) (hM := by assumption) (hv := by assumption) (k := ?_)
        refine mj_b_iload (hE := fe_21_60) (hv := rfl) (k := ?_)
        refine mj_b_aaldQ (hE := fe_21_62) (hM := by assumption) (ht := by decide) (hj := rfl) (hc := by omega) (hn := by decide) (hv := by assumption) (k := ?_)
        refine mj_b_rload_n (hE := fe_21_63) (hv := rfl) (k := ?_)
        refine mj_b_iload_n (hE := fe_21_64) (hv := rfl) (k := ?_)
        refine mj_b_callR (hE := fe_21_65) (hi := in_22) (h1 := g22 _ hC hx1 hx2 hs) (hc := mj_cok_v rfl rfl (by assumption)) (ha := rfl) (hr := rfl) ?_
        refine mj_b_if1 (hE := fe_21_68) (kt := fun h68 => ?_) (kf := fun h68 => ?_)
        · simp only [mj_cnd, decide_eq_true_eq, decide_eq_false_iff_not, Bool.not_eq_true', Bool.not_eq_false', pz_0, Bool.not_eq_false, Bool.not_eq_true] at h68
          refine mj_b_iconst (hE := fe_21_75) (k := ?_)
          exact hnx _ (pz false) _ _ ((ih (i + 1) false l2 (by omega)).mono (fun s hs => by rw [hs]; simp [ch_f, h53, h68]))
        · simp only [mj_cnd, decide_eq_true_eq, decide_eq_false_iff_not, Bool.not_eq_true', Bool.not_eq_false', pz_0, Bool.not_eq_false, Bool.not_eq_true] at h68
          refine mj_b_iconst (hE := fe_21_71) (k := ?_)
          refine mj_b_goto (hE := fe_21_72) (k := ?_)
          exact hnx _ (pz true) _ _ ((ih (i + 1) true l2 (by omega)).mono (fun s hs => by rw [hs]; simp [ch_f, h53, h68]))
    refine mj_b_iload (hE := fe_21_8) (hv := rfl) (k := ?_)
    refine mj_b_rload_n (hE := fe_21_10) (hv := rfl) (k := ?_)
    refine mj_b_getV (hE := fe_21_11) (hM := by assumption) (hv := by assumption) (k := ?_)
    refine mj_b_if2 (hE := fe_21_14) (kt := fun h => ?_) (kf := fun h => ?_)
    · simp only [mj_cnd, decide_eq_true_eq] at h
      exact absurd h (nI_ge (by omega) (by omega))
    · refine mj_b_rload_n (hE := fe_21_17) (hv := rfl) (k := ?_)
      refine mj_b_getQ (hE := fe_21_18) (hM := by assumption) (hv := by assumption) (k := ?_)
      refine mj_b_iload (hE := fe_21_21) (hv := rfl) (k := ?_)
      refine mj_b_aaldQ (hE := fe_21_23) (hM := by assumption) (ht := by decide) (hj := rfl) (hc := by omega) (hn := by decide) (hv := by assumption) (k := ?_)
      refine mj_b_getV (hE := fe_21_24) (hM := by assumption) (hv := rfl) (k := ?_)
      refine mj_b_iload (hE := fe_21_27) (hv := rfl) (k := ?_)
      refine mj_b_if2 (hE := fe_21_29) (kt := fun g => ?_) (kf := fun g => ?_)
      · simp only [mj_cnd, decide_eq_true_eq] at g
        exact (h52 lh l).mono (fun s hs => by rw [hs]; simp [ch_hol, g])
      · simp only [mj_cnd, decide_eq_false_iff_not] at g
        refine mj_b_iload_n (hE := fe_21_32) (hv := rfl) (k := ?_)
        refine mj_b_if1 (hE := fe_21_33) (kt := fun j => ?_) (kf := fun j => ?_)
        · simp only [mj_cnd, decide_eq_true_eq, pz_0] at j
          refine mj_b_rload_n (hE := fe_21_38) (hv := rfl) (k := ?_)
          refine mj_b_getQ (hE := fe_21_39) (hM := by assumption) (hv := by assumption) (k := ?_)
          refine mj_b_iload (hE := fe_21_42) (hv := rfl) (k := ?_)
          refine mj_b_aaldQ (hE := fe_21_44) (hM := by assumption) (ht := by decide) (hj := rfl) (hc := by omega) (hn := by decide) (hv := by assumption) (k := ?_)
          refine mj_b_getV (hE := fe_21_45) (hM := by assumption) (hv := rfl) (k := ?_)
          refine mj_b_istore (hE := fe_21_48) (hx := Nat.le_of_ble_eq_true rfl) (k := ?_)
          refine mj_b_iconst (hE := fe_21_50) (k := ?_)
          refine mj_b_istore_n (hE := fe_21_51) (hx := Nat.le_of_ble_eq_true rfl) (k := ?_)
          exact (h52 true _).mono (fun s hs => by rw [hs]; simp [ch_hol, g, j])
        · simp only [mj_cnd, decide_eq_false_iff_not, pz_0, Bool.not_eq_false] at j
          refine mj_b_iconst (hE := fe_21_36) (k := ?_)
          exact mj_b_retZ (hE := fe_21_37) (hi := in_21) (Or.inr rfl) (by simp [ch_hol, g, j, pz])
def ch_holds (I : Nat → Nat → Int32) (b : Nat) (pi : Nat → Nat) (dp : Nat → Bool) (nr nl nc : Nat) (al ng : Nat → Bool) (p : Int32) : Bool := ch_hol (ch_f I b pi dp nr nl al ng p) (fun i => I (74 + i) 0) 0 nc true 1
/-- Header.holds -/
theorem g21 (p : Int32) (hs : c_st b pi nr nl ex dp I R) (hh : c_hd nc al ng I R) :
    mj_G pj_P 21 [.ref 72, .ref b, .int p] (mz_SH L, I, R) (fun r => r = (some (.int (pz (ch_holds I b pi dp nr nl nc al ng p))), (mz_SH L, I, R))) := by
  refine mj_enter in_21 (L := [.ref 72, .ref b, .int p, .retAddr 0, .retAddr 0, .retAddr 0]) rfl ?_
  refine mj_b_iconst (hE := fe_21_0) (k := ?_)
  refine mj_b_istore_n (hE := fe_21_1) (hx := Nat.le_of_ble_eq_true rfl) (k := ?_)
  refine mj_b_iconst (hE := fe_21_2) (k := ?_)
  refine mj_b_istore (hE := fe_21_3) (hx := Nat.le_of_ble_eq_true rfl) (k := ?_)
  refine mj_b_iconst (hE := fe_21_5) (k := ?_)
  refine mj_b_istore (hE := fe_21_6) (hx := Nat.le_of_ble_eq_true rfl) (k := ?_)
  exact l21 p hs hh nc 0 true 1 (by omega)
def c_fstR (I : Nat → Nat → Int32) (b : Nat) (pi : Nat → Nat) (dp : Nat → Bool) (nr nl nc : Nat) (al ng : Nat → Bool) (p : Int32) (ok : Bool) : Int32 :=
  if ok = false ∨ ch_wf I = false then 400 else if ch_holds I b pi dp nr nl nc al ng p = true then -1 else 412
/-- LockedTree.firstRefusal -/
theorem g19 (p : Int32) (ok : Bool) (hs : c_st sn pi nr nl ex dp I R) (hh : c_hd nc al ng I R) (ht : c_top sn sx R) :
    mj_G pj_P 19 [.ref 1, .int p, .int (pz ok)] (mz_SH L, I, R) (fun r => r = (some (.int (c_fstR I sn pi dp nr nl nc al ng p ok)), (mz_SH L, I, R))) := by
  have h1 := sh_1 L
  have h72 := sh_72 L
  have ht1 := ht.1
  have ht3 := ht.2.2.1
  refine mj_enter in_19 (L := [.ref 1, .int p, .int (pz ok)]) rfl ?_
  refine mj_b_iload_n (hE := fe_19_0) (hv := rfl) (k := ?_)
  refine mj_b_if1 (hE := fe_19_1) (kt := fun h1 => ?_) (kf := fun h1 => ?_)
  · simp only [mj_cnd, decide_eq_true_eq, decide_eq_false_iff_not, Bool.not_eq_true', Bool.not_eq_false', pz_0, Bool.not_eq_false, Bool.not_eq_true] at h1
    refine mj_b_sipush (hE := fe_19_14) (k := ?_)
    exact mj_b_retI (hE := fe_19_17) (hi := in_19) (by first | (simp [c_fstR, pz, h1]; done) | (simp_all [c_fstR, pz]; done) | rfl)
  · simp only [mj_cnd, decide_eq_true_eq, decide_eq_false_iff_not, Bool.not_eq_true', Bool.not_eq_false', pz_0, Bool.not_eq_false, Bool.not_eq_true] at h1
    refine mj_b_rload_n (hE := fe_19_4) (hv := rfl) (k := ?_)
    refine mj_b_getQ (hE := fe_19_5) (hM := by assumption) (hv := by assumption) (k := ?_)
    refine mj_b_callR (hE := fe_19_8) (hi := in_20) (h1 := g20) (hc := mj_cok_v rfl rfl (by assumption)) (ha := rfl) (hr := rfl) ?_
    refine mj_b_if1 (hE := fe_19_11) (kt := fun h11 => ?_) (kf := fun h11 => ?_)
    · simp only [mj_cnd, decide_eq_true_eq, decide_eq_false_iff_not, Bool.not_eq_true', Bool.not_eq_false', pz_0, Bool.not_eq_false, Bool.not_eq_true] at h11
      refine mj_b_rload_n (hE := fe_19_18) (hv := rfl) (k := ?_)
      refine mj_b_getQ (hE := fe_19_19) (hM := by assumption) (hv := by assumption) (k := ?_)
      refine mj_b_rload_n (hE := fe_19_22) (hv := rfl) (k := ?_)
      refine mj_b_getQ (hE := fe_19_23) (hM := by assumption) (hv := by assumption) (k := ?_)
      refine mj_b_iload_n (hE := fe_19_26) (hv := rfl) (k := ?_)
      refine mj_b_callR (hE := fe_19_27) (hi := in_21) (h1 := g21 _ hs hh) (hc := mj_cok_v rfl rfl (by assumption)) (ha := rfl) (hr := rfl) ?_
      refine mj_b_if1 (hE := fe_19_30) (kt := fun h30 => ?_) (kf := fun h30 => ?_)
      · simp only [mj_cnd, decide_eq_true_eq, decide_eq_false_iff_not, Bool.not_eq_true', Bool.not_eq_false', pz_0, Bool.not_eq_false, Bool.not_eq_true] at h30
        refine mj_b_sipush (hE := fe_19_37) (k := ?_)
        exact mj_b_retI (hE := fe_19_40) (hi := in_19) (by first | (simp [c_fstR, pz, h1, h11, h30]; done) | (simp_all [c_fstR, pz]; done) | rfl)
      · simp only [mj_cnd, decide_eq_true_eq, decide_eq_false_iff_not, Bool.not_eq_true', Bool.not_eq_false', pz_0, Bool.not_eq_false, Bool.not_eq_true] at h30
        refine mj_b_iconst (hE := fe_19_33) (k := ?_)
        refine mj_b_goto (hE := fe_19_34) (k := ?_)
        exact mj_b_retI (hE := fe_19_40) (hi := in_19) (by first | (simp [c_fstR, pz, h1, h11, h30]; done) | (simp_all [c_fstR, pz]; done) | rfl)
    · simp only [mj_cnd, decide_eq_true_eq, decide_eq_false_iff_not, Bool.not_eq_true', Bool.not_eq_false', pz_0, Bool.not_eq_false, Bool.not_eq_true] at h11
      refine mj_b_sipush (hE := fe_19_14) (k := ?_)
      exact mj_b_retI (hE := fe_19_17) (hi := in_19) (by first | (simp [c_fstR, pz, h1, h11]; done) | (simp_all [c_fstR, pz]; done) | rfl)
def c_way (I : Nat → Nat → Int32) (b : Nat) (ex dp : Nat → Bool) (p : Int32) (xc dq : Bool) (i : Nat) : Bool := (c_cov I b dp p i || (dq && pf_below (I (b + 29 + i) 1) p)) && (xc || ex i)
set_option maxHeartbeats 2000000 in
theorem l74 {p : Int32} {xc dq : Bool} (hs : c_st sn pi nr nl ex dp I R) (ht : c_top sn sx R) :
    ∀ (k i : Nat) (v5 v6 : Value), i + k = nl → mj_T pj_P 74 3 [.ref 1, .int p, .int (pz xc), .int (pz dq), .int (nI i), v5, v6] [] (mz_SH L, I, R) (fun r => r = (some (.int (pz (pa_any (c_way I sn ex dp p xc dq) i k))), (mz_SH L, I, R))) := by
  obtain ⟨hb, hok, ⟨hn1, hn2⟩, ⟨hl1, hl2⟩, hlk⟩ := hs
  obtain ⟨ht1, ht2, ht3, ht4⟩ := ht
  have hS := sh_S L hb
  have hA := sh_K L hb
  have h1 := sh_1 L
  have hR := hok.2.1
  intro k
  induction k with
  | zero =>
    intro i v5 v6 hi
    have hin : i = nl := by omega
    subst hin
    refine mj_b_iload (hE := fe_74_3) (hv := rfl) (k := ?_)
    refine mj_b_rload_n (hE := fe_74_5) (hv := rfl) (k := ?_)
    refine mj_b_getQ (hE := fe_74_6) (hM := by assumption) (hv := by assumption) (k := ?_)
    refine mj_b_getV (hE := fe_74_9) (hM := by assumption) (hv := by assumption) (k := ?_)
    refine mj_b_if2 (hE := fe_74_12) (kt := fun h => ?_) (kf := fun h => ?_)
    · refine mj_b_iconst (hE := fe_74_84) (k := ?_)
      exact mj_b_retZ (hE := fe_74_85) (hi := in_74) (Or.inl rfl) rfl
    · simp [mj_cnd] at h
  | succ k ih =>
    intro i v5 v6 hi
    have hi6 : i < 6 := by omega
    have hr1 := hok.2.2.2.1 i hi6
    have hC := sh_L L hb hi6
    obtain ⟨hx1, hx2⟩ := hlk i (by omega)
    have hnx : ∀ Q v5 v6, mj_T pj_P 74 3 [.ref 1, .int p, .int (pz xc), .int (pz dq), .int (nI (i + 1)), v5, v6] [] (mz_SH L, I, R) Q → mj_T pj_P 74 78 [.ref 1, .int p, .int (pz xc), .int (pz dq), .int (nI i), v5, v6] [] (mz_SH L, I, R) Q := by
      intro Q v5 v6 hQ
      refine mj_b_iinc (hE := fe_74_78) (hv := rfl) (k := ?_)
      refine mj_b_goto (hE := fe_74_81) (k := ?_)
      exact (show mj_T pj_P 74 3 [.ref 1, .int p, .int (pz xc), .int (pz dq), .int (nI i + 1), v5, v6] [] (mz_SH L, I, R) Q from (nI_succ i) ▸ hQ)
    refine mj_b_iload (hE := fe_74_3) (hv := rfl) (k := ?_)
    refine mj_b_rload_n (hE := fe_74_5) (hv := rfl) (k := ?_)
    refine mj_b_getQ (hE := fe_74_6) (hM := by assumption) (hv := by assumption) (k := ?_)
    refine mj_b_getV (hE := fe_74_9) (hM := by assumption) (hv := by assumption) (k := ?_)
    refine mj_b_if2 (hE := fe_74_12) (kt := fun h => ?_) (kf := fun h => ?_)
    · simp only [mj_cnd, decide_eq_true_eq] at h
      exact absurd h (nI_ge (by omega) (by omega))
    · refine mj_b_rload_n (hE := fe_74_15) (hv := rfl) (k := ?_)
      refine mj_b_getQ (hE := fe_74_16) (hM := by assumption) (hv := by assumption) (k := ?_)
      refine mj_b_getQ (hE := fe_74_19) (hM := by assumption) (hv := by assumption) (k := ?_)
      refine mj_b_iload (hE := fe_74_22) (hv := rfl) (k := ?_)
      refine mj_b_aaldQ (hE := fe_74_24) (hM := by assumption) (ht := by decide) (hj := rfl) (hc := by omega) (hn := by decide) (hv := by assumption) (k := ?_)
      refine mj_b_rstore (hE := fe_74_25) (hx := Nat.le_of_ble_eq_true rfl) (k := ?_)
      refine mj_b_rload (hE := fe_74_27) (hv := rfl) (k := ?_)
      refine mj_b_iload_n (hE := fe_74_29) (hv := rfl) (k := ?_)
      refine mj_b_callR (hE := fe_74_30) (hi := in_25) (h1 := g25 _ hC hx2) (hc := mj_cok_v rfl rfl (by assumption)) (ha := rfl) (hr := rfl) ?_
      refine mj_b_if1 (hE := fe_74_33) (kt := fun h33 => ?_) (kf := fun h33 => ?_)
      · simp only [mj_cnd, decide_eq_true_eq, decide_eq_false_iff_not, Bool.not_eq_true', Bool.not_eq_false', pz_0, Bool.not_eq_false, Bool.not_eq_true] at h33
        refine mj_b_iconst (hE := fe_74_52) (k := ?_)
        refine mj_b_goto (hE := fe_74_53) (k := ?_)
        refine mj_b_istore (hE := fe_74_57) (hx := Nat.le_of_ble_eq_true rfl) (k := ?_)
        refine mj_b_iload (hE := fe_74_59) (hv := rfl) (k := ?_)
        refine mj_b_if1 (hE := fe_74_61) (kt := fun h => absurd h (by decide +kernel)) (kf := fun _ => ?_)
        refine mj_b_iload_n (hE := fe_74_64) (hv := rfl) (k := ?_)
        refine mj_b_if1 (hE := fe_74_65) (kt := fun h65 => ?_) (kf := fun h65 => ?_)
        · simp only [mj_cnd, decide_eq_true_eq, decide_eq_false_iff_not, Bool.not_eq_true', Bool.not_eq_false', pz_0, Bool.not_eq_false, Bool.not_eq_true] at h65
          refine mj_b_iconst (hE := fe_74_76) (k := ?_)
          exact mj_b_retZ (hE := fe_74_77) (hi := in_74) (by first | decide | exact pz_01 _) (by first | (simp [pa_any, c_way, c_cov, pz, h33, h65]; done) | (simp_all [pa_any, c_way, c_cov, pz]; done) | rfl)
        · simp only [mj_cnd, decide_eq_true_eq, decide_eq_false_iff_not, Bool.not_eq_true', Bool.not_eq_false', pz_0, Bool.not_eq_false, Bool.not_eq_true] at h65
          refine mj_b_rload (hE := fe_74_68) (hv := rfl) (k := ?_)
          refine mj_b_getV (hE := fe_74_70) (hM := hC) (hv := hx1) (k := ?_)
          refine mj_b_if1 (hE := fe_74_73) (kt := fun h73 => ?_) (kf := fun h73 => ?_)
          · simp only [mj_cnd, decide_eq_true_eq, decide_eq_false_iff_not, Bool.not_eq_true', Bool.not_eq_false', pz_0, Bool.not_eq_false, Bool.not_eq_true] at h73
            exact hnx _ _ _ ((ih (i + 1) _ _ (by omega)).mono (fun s hs => by rw [hs]; simp [pa_any, c_way, c_cov, h33, h65, h73]))
          · simp only [mj_cnd, decide_eq_true_eq, decide_eq_false_iff_not, Bool.not_eq_true', Bool.not_eq_false', pz_0, Bool.not_eq_false, Bool.not_eq_true] at h73
            refine mj_b_iconst (hE := fe_74_76) (k := ?_)
            exact mj_b_retZ (hE := fe_74_77) (hi := in_74) (by first | decide | exact pz_01 _) (by first | (simp [pa_any, c_way, c_cov, pz, h33, h65, h73]; done) | (simp_all [pa_any, c_way, c_cov, pz]; done) | rfl)
      · simp only [mj_cnd, decide_eq_true_eq, decide_eq_false_iff_not, Bool.not_eq_true', Bool.not_eq_false', pz_0, Bool.not_eq_false, Bool.not_eq_true] at h33
        refine mj_b_iload_n (hE := fe_74_36) (hv := rfl) (k := ?_)
        refine mj_b_if1 (hE := fe_74_37) (kt := fun h37 => ?_) (kf := fun h37 => ?_)
        · simp only [mj_cnd, decide_eq_true_eq, decide_eq_false_iff_not, Bool.not_eq_true', Bool.not_eq_false', pz_0, Bool.not_eq_false, Bool.not_eq_true] at h37
          refine mj_b_iconst (hE := fe_74_56) (k := ?_)
          refine mj_b_istore (hE := fe_74_57) (hx := Nat.le_of_ble_eq_true rfl) (k := ?_)
          refine mj_b_iload (hE := fe_74_59) (hv := rfl) (k := ?_)
          refine mj_b_if1 (hE := fe_74_61) (kt := fun _ => ?_) (kf := fun h => absurd h (by decide +kernel))
          exact hnx _ _ _ ((ih (i + 1) _ _ (by omega)).mono (fun s hs => by rw [hs]; simp [pa_any, c_way, c_cov, h33, h37]))
        · simp only [mj_cnd, decide_eq_true_eq, decide_eq_false_iff_not, Bool.not_eq_true', Bool.not_eq_false', pz_0, Bool.not_eq_false, Bool.not_eq_true] at h37
          refine mj_b_rload (hE := fe_74_40) (hv := rfl) (k := ?_)
          refine mj_b_getV (hE := fe_74_42) (hM := hC) (hv := rfl) (k := ?_)
          refine mj_b_iload_n (hE := fe_74_45) (hv := rfl) (k := ?_)
          refine mj_b_callR (hE := fe_74_46) (hi := in_26) (h1 := g26 _ _ _) (hc := mj_cok_s rfl) (ha := rfl) (hr := rfl) ?_
          refine mj_b_if1 (hE := fe_74_49) (kt := fun h49 => ?_) (kf := fun h49 => ?_)
          · simp only [mj_cnd, decide_eq_true_eq, decide_eq_false_iff_not, Bool.not_eq_true', Bool.not_eq_false', pz_0, Bool.not_eq_false, Bool.not_eq_true] at h49
            refine mj_b_iconst (hE := fe_74_56) (k := ?_)
            refine mj_b_istore (hE := fe_74_57) (hx := Nat.le_of_ble_eq_true rfl) (k := ?_)
            refine mj_b_iload (hE := fe_74_59) (hv := rfl) (k := ?_)
            refine mj_b_if1 (hE := fe_74_61) (kt := fun _ => ?_) (kf := fun h => absurd h (by decide +kernel))
            exact hnx _ _ _ ((ih (i + 1) _ _ (by omega)).mono (fun s hs => by rw [hs]; simp [pa_any, c_way, c_cov, h33, h37, h49]))
          · simp only [mj_cnd, decide_eq_true_eq, decide_eq_false_iff_not, Bool.not_eq_true', Bool.not_eq_false', pz_0, Bool.not_eq_false, Bool.not_eq_true] at h49
            refine mj_b_iconst (hE := fe_74_52) (k := ?_)
            refine mj_b_goto (hE := fe_74_53) (k := ?_)
            refine mj_b_istore (hE := fe_74_57) (hx := Nat.le_of_ble_eq_true rfl) (k := ?_)
            refine mj_b_iload (hE := fe_74_59) (hv := rfl) (k := ?_)
            refine mj_b_if1 (hE := fe_74_61) (kt := fun h => absurd h (by decide +kernel)) (kf := fun _ => ?_)
            refine mj_b_iload_n (hE := fe_74_64) (hv := rfl) (k := ?_)
            refine mj_b_if1 (hE := fe_74_65) (kt := fun h65 => ?_) (kf := fun h65 => ?_)
            · simp only [mj_cnd, decide_eq_true_eq, decide_eq_false_iff_not, Bool.not_eq_true', Bool.not_eq_false', pz_0, Bool.not_eq_false, Bool.not_eq_true] at h65
              refine mj_b_iconst (hE := fe_74_76) (k := ?_)
              exact mj_b_retZ (hE := fe_74_77) (hi := in_74) (by first | decide | exact pz_01 _) (by first | (simp [pa_any, c_way, c_cov, pz, h33, h37, h49, h65]; done) | (simp_all [pa_any, c_way, c_cov, pz]; done) | rfl)
            · simp only [mj_cnd, decide_eq_true_eq, decide_eq_false_iff_not, Bool.not_eq_true', Bool.not_eq_false', pz_0, Bool.not_eq_false, Bool.not_eq_true] at h65
              refine mj_b_rload (hE := fe_74_68) (hv := rfl) (k := ?_)
              refine mj_b_getV (hE := fe_74_70) (hM := hC) (hv := hx1) (k := ?_)
              refine mj_b_if1 (hE := fe_74_73) (kt := fun h73 => ?_) (kf := fun h73 => ?_)
              · simp only [mj_cnd, decide_eq_true_eq, decide_eq_false_iff_not, Bool.not_eq_true', Bool.not_eq_false', pz_0, Bool.not_eq_false, Bool.not_eq_true] at h73
                exact hnx _ _ _ ((ih (i + 1) _ _ (by omega)).mono (fun s hs => by rw [hs]; simp [pa_any, c_way, c_cov, h33, h37, h49, h65, h73]))
              · simp only [mj_cnd, decide_eq_true_eq, decide_eq_false_iff_not, Bool.not_eq_true', Bool.not_eq_false', pz_0, Bool.not_eq_false, Bool.not_eq_true] at h73
                refine mj_b_iconst (hE := fe_74_76) (k := ?_)
                exact mj_b_retZ (hE := fe_74_77) (hi := in_74) (by first | decide | exact pz_01 _) (by first | (simp [pa_any, c_way, c_cov, pz, h33, h37, h49, h65, h73]; done) | (simp_all [pa_any, c_way, c_cov, pz]; done) | rfl)
/-- LockedTree.isLockInTheWay -/
theorem g74 (p : Int32) (xc dq : Bool) (hs : c_st sn pi nr nl ex dp I R) (ht : c_top sn sx R) :
    mj_G pj_P 74 [.ref 1, .int p, .int (pz xc), .int (pz dq)] (mz_SH L, I, R) (fun r => r = (some (.int (pz (pa_any (c_way I sn ex dp p xc dq) 0 nl))), (mz_SH L, I, R))) := by
  refine mj_enter in_74 (L := [.ref 1, .int p, .int (pz xc), .int (pz dq), .retAddr 0, .retAddr 0, .retAddr 0]) rfl ?_
  refine mj_b_iconst (hE := fe_74_0) (k := ?_)
  refine mj_b_istore (hE := fe_74_1) (hx := Nat.le_of_ble_eq_true rfl) (k := ?_)
  exact l74 hs ht nl 0 _ _ (by omega)
def c_l6 (nl : Nat) : Bool := decide ((6 : Int32) ≤ nI nl)
def c_lckR (I : Nat → Nat → Int32) (b : Nat) (pi : Nat → Nat) (ex dp al : Nat → Bool) (nr nl nc : Nat) (p : Int32) (xc dq : Bool) : Int32 :=
  if cs_has I b pi nr p = false ∧ cs_coll I b pi nr (p / 8) = false then 409
  else if (cs_has I b pi nr p = false ∧ c_bar I b dp al nl nc (p / 8) = true) ∨ pa_any (c_way I b ex dp p xc dq) 0 nl = true then 423
  else if (6 : Int32) ≤ nI nl ∨ (cs_has I b pi nr p = false ∧ c_full nr = true) then 507 else -1
set_option maxHeartbeats 2000000 in
/-- LockedTree.lockRefusal -/
theorem g73 (p : Int32) (xc dq : Bool) (hs : c_st sn pi nr nl ex dp I R) (hh : c_hd nc al ng I R) (ht : c_top sn sx R) :
    mj_G pj_P 73 [.ref 1, .int p, .int (pz xc), .int (pz dq)] (mz_SH L, I, R) (fun r => r = (some (.int (c_lckR I sn pi ex dp al nr nl nc p xc dq)), (mz_SH L, I, R))) := by
  have h1 := sh_1 L
  have ht1 := ht.1
  have hS := sh_S L hs.1
  have hl1 := hs.2.2.2.1.1
  refine mj_enter in_73 (L := [.ref 1, .int p, .int (pz xc), .int (pz dq), .retAddr 0]) rfl ?_
  refine mj_b_rload_n (hE := fe_73_0) (hv := rfl) (k := ?_)
  refine mj_b_getQ (hE := fe_73_1) (hM := by assumption) (hv := by assumption) (k := ?_)
  refine mj_b_iload_n (hE := fe_73_4) (hv := rfl) (k := ?_)
  refine mj_b_callR (hE := fe_73_5) (hi := in_32) (h1 := g32 _ hs.1 hs.2.1 hs.2.2.1.1 hs.2.2.1.2) (hc := mj_cok_v rfl rfl (by assumption)) (ha := rfl) (hr := rfl) ?_
  refine mj_b_if1 (hE := fe_73_8) (kt := fun h8 => ?_) (kf := fun h8 => ?_)
  · simp only [mj_cnd, decide_eq_true_eq, decide_eq_false_iff_not, Bool.not_eq_true', Bool.not_eq_false', pz_0, Bool.not_eq_false, Bool.not_eq_true] at h8
    refine mj_b_iconst (hE := fe_73_15) (k := ?_)
    refine mj_b_istore (hE := fe_73_16) (hx := Nat.le_of_ble_eq_true rfl) (k := ?_)
    refine mj_b_iload (hE := fe_73_18) (hv := rfl) (k := ?_)
    refine mj_b_if1 (hE := fe_73_20) (kt := fun _ => ?_) (kf := fun h => absurd h (by decide +kernel))
    refine mj_b_iload (hE := fe_73_41) (hv := rfl) (k := ?_)
    refine mj_b_if1 (hE := fe_73_43) (kt := fun _ => ?_) (kf := fun h => absurd h (by decide +kernel))
    refine mj_b_rload_n (hE := fe_73_57) (hv := rfl) (k := ?_)
    refine mj_b_iload_n (hE := fe_73_58) (hv := rfl) (k := ?_)
    refine mj_b_iload_n (hE := fe_73_59) (hv := rfl) (k := ?_)
    refine mj_b_iload_n (hE := fe_73_60) (hv := rfl) (k := ?_)
    refine mj_b_callR (hE := fe_73_61) (hi := in_74) (h1 := g74 _ _ _ hs ht) (hc := mj_cok_v rfl rfl (by assumption)) (ha := rfl) (hr := rfl) ?_
    refine mj_b_if1 (hE := fe_73_64) (kt := fun h64 => ?_) (kf := fun h64 => ?_)
    · simp only [mj_cnd, decide_eq_true_eq, decide_eq_false_iff_not, Bool.not_eq_true', Bool.not_eq_false', pz_0, Bool.not_eq_false, Bool.not_eq_true] at h64
      refine mj_b_rload_n (hE := fe_73_71) (hv := rfl) (k := ?_)
      refine mj_b_getQ (hE := fe_73_72) (hM := by assumption) (hv := by assumption) (k := ?_)
      refine mj_b_getV (hE := fe_73_75) (hM := by assumption) (hv := by assumption) (k := ?_)
      refine mj_b_bipush (hE := fe_73_78) (k := ?_)
      refine mj_b_if2 (hE := fe_73_80) (kt := fun h80 => ?_) (kf := fun h80 => ?_)
      · simp only [mj_cnd, decide_eq_true_eq, decide_eq_false_iff_not, Bool.not_eq_true', Bool.not_eq_false', pz_0, Bool.not_eq_false, Bool.not_eq_true] at h80
        refine mj_b_sipush (hE := fe_73_98) (k := ?_)
        refine mj_b_goto (hE := fe_73_101) (k := ?_)
        exact mj_b_retI (hE := fe_73_105) (hi := in_73) (by first | (simp [c_lckR, pz, h8, h64, h80]; done) | (simp_all [c_lckR, pz]; done) | rfl)
      · simp only [mj_cnd, decide_eq_true_eq, decide_eq_false_iff_not, Bool.not_eq_true', Bool.not_eq_false', pz_0, Bool.not_eq_false, Bool.not_eq_true] at h80
        refine mj_b_iload (hE := fe_73_83) (hv := rfl) (k := ?_)
        refine mj_b_if1 (hE := fe_73_85) (kt := fun _ => ?_) (kf := fun h => absurd h (by decide +kernel))
        refine mj_b_iconst (hE := fe_73_104) (k := ?_)
        exact mj_b_retI (hE := fe_73_105) (hi := in_73) (by first | (simp [c_lckR, pz, h8, h64, h80]; done) | (simp_all [c_lckR, pz]; done) | rfl)
    · simp only [mj_cnd, decide_eq_true_eq, decide_eq_false_iff_not, Bool.not_eq_true', Bool.not_eq_false', pz_0, Bool.not_eq_false, Bool.not_eq_true] at h64
      refine mj_b_sipush (hE := fe_73_67) (k := ?_)
      exact mj_b_retI (hE := fe_73_70) (hi := in_73) (by first | (simp [c_lckR, pz, h8, h64]; done) | (simp_all [c_lckR, pz]; done) | rfl)
  · simp only [mj_cnd, decide_eq_true_eq, decide_eq_false_iff_not, Bool.not_eq_true', Bool.not_eq_false', pz_0, Bool.not_eq_false, Bool.not_eq_true] at h8
    refine mj_b_iconst (hE := fe_73_11) (k := ?_)
    refine mj_b_goto (hE := fe_73_12) (k := ?_)
    refine mj_b_istore (hE := fe_73_16) (hx := Nat.le_of_ble_eq_true rfl) (k := ?_)
    refine mj_b_iload (hE := fe_73_18) (hv := rfl) (k := ?_)
    refine mj_b_if1 (hE := fe_73_20) (kt := fun h => absurd h (by decide +kernel)) (kf := fun _ => ?_)
    refine mj_b_rload_n (hE := fe_73_23) (hv := rfl) (k := ?_)
    refine mj_b_getQ (hE := fe_73_24) (hM := by assumption) (hv := by assumption) (k := ?_)
    refine mj_b_iload_n (hE := fe_73_27) (hv := rfl) (k := ?_)
    refine mj_b_callR (hE := fe_73_28) (hi := in_31) (h1 := g31 _ _) (hc := mj_cok_s rfl) (ha := rfl) (hr := rfl) ?_
    refine mj_b_callR (hE := fe_73_31) (hi := in_30) (h1 := g30 _ hs.1 hs.2.1 hs.2.2.1.1 hs.2.2.1.2) (hc := mj_cok_v rfl rfl (by assumption)) (ha := rfl) (hr := rfl) ?_
    refine mj_b_if1 (hE := fe_73_34) (kt := fun h34 => ?_) (kf := fun h34 => ?_)
    · simp only [mj_cnd, decide_eq_true_eq, decide_eq_false_iff_not, Bool.not_eq_true', Bool.not_eq_false', pz_0, Bool.not_eq_false, Bool.not_eq_true] at h34
      refine mj_b_iload (hE := fe_73_41) (hv := rfl) (k := ?_)
      refine mj_b_if1 (hE := fe_73_43) (kt := fun h => absurd h (by decide +kernel)) (kf := fun _ => ?_)
      refine mj_b_rload_n (hE := fe_73_46) (hv := rfl) (k := ?_)
      refine mj_b_iload_n (hE := fe_73_47) (hv := rfl) (k := ?_)
      refine mj_b_callR (hE := fe_73_48) (hi := in_31) (h1 := g31 _ _) (hc := mj_cok_s rfl) (ha := rfl) (hr := rfl) ?_
      refine mj_b_callR (hE := fe_73_51) (hi := in_33) (h1 := g33 _ hs hh ht) (hc := mj_cok_v rfl rfl (by assumption)) (ha := rfl) (hr := rfl) ?_
      refine mj_b_if1 (hE := fe_73_54) (kt := fun h54 => ?_) (kf := fun h54 => ?_)
      · simp only [mj_cnd, decide_eq_true_eq, decide_eq_false_iff_not, Bool.not_eq_true', Bool.not_eq_false', pz_0, Bool.not_eq_false, Bool.not_eq_true] at h54
        refine mj_b_sipush (hE := fe_73_67) (k := ?_)
        exact mj_b_retI (hE := fe_73_70) (hi := in_73) (by first | (simp [c_lckR, pz, h8, h34, h54]; done) | (simp_all [c_lckR, pz]; done) | rfl)
      · simp only [mj_cnd, decide_eq_true_eq, decide_eq_false_iff_not, Bool.not_eq_true', Bool.not_eq_false', pz_0, Bool.not_eq_false, Bool.not_eq_true] at h54
        refine mj_b_rload_n (hE := fe_73_57) (hv := rfl) (k := ?_)
        refine mj_b_iload_n (hE := fe_73_58) (hv := rfl) (k := ?_)
        refine mj_b_iload_n (hE := fe_73_59) (hv := rfl) (k := ?_)
        refine mj_b_iload_n (hE := fe_73_60) (hv := rfl) (k := ?_)
        refine mj_b_callR (hE := fe_73_61) (hi := in_74) (h1 := g74 _ _ _ hs ht) (hc := mj_cok_v rfl rfl (by assumption)) (ha := rfl) (hr := rfl) ?_
        refine mj_b_if1 (hE := fe_73_64) (kt := fun h64 => ?_) (kf := fun h64 => ?_)
        · simp only [mj_cnd, decide_eq_true_eq, decide_eq_false_iff_not, Bool.not_eq_true', Bool.not_eq_false', pz_0, Bool.not_eq_false, Bool.not_eq_true] at h64
          refine mj_b_rload_n (hE := fe_73_71) (hv := rfl) (k := ?_)
          refine mj_b_getQ (hE := fe_73_72) (hM := by assumption) (hv := by assumption) (k := ?_)
          refine mj_b_getV (hE := fe_73_75) (hM := by assumption) (hv := by assumption) (k := ?_)
          refine mj_b_bipush (hE := fe_73_78) (k := ?_)
          refine mj_b_if2 (hE := fe_73_80) (kt := fun h80 => ?_) (kf := fun h80 => ?_)
          · simp only [mj_cnd, decide_eq_true_eq, decide_eq_false_iff_not, Bool.not_eq_true', Bool.not_eq_false', pz_0, Bool.not_eq_false, Bool.not_eq_true] at h80
            refine mj_b_sipush (hE := fe_73_98) (k := ?_)
            refine mj_b_goto (hE := fe_73_101) (k := ?_)
            exact mj_b_retI (hE := fe_73_105) (hi := in_73) (by first | (simp [c_lckR, pz, h8, h34, h54, h64, h80]; done) | (simp_all [c_lckR, pz]; done) | rfl)
          · simp only [mj_cnd, decide_eq_true_eq, decide_eq_false_iff_not, Bool.not_eq_true', Bool.not_eq_false', pz_0, Bool.not_eq_false, Bool.not_eq_true] at h80
            refine mj_b_iload (hE := fe_73_83) (hv := rfl) (k := ?_)
            refine mj_b_if1 (hE := fe_73_85) (kt := fun h => absurd h (by decide +kernel)) (kf := fun _ => ?_)
            refine mj_b_rload_n (hE := fe_73_88) (hv := rfl) (k := ?_)
            refine mj_b_getQ (hE := fe_73_89) (hM := by assumption) (hv := by assumption) (k := ?_)
            refine mj_b_callR (hE := fe_73_92) (hi := in_36) (h1 := g36f hs.1 hs.2.1 hs.2.2.1.1) (hc := mj_cok_v rfl rfl (by assumption)) (ha := rfl) (hr := rfl) ?_
            refine mj_b_if1 (hE := fe_73_95) (kt := fun h95 => ?_) (kf := fun h95 => ?_)
            · simp only [mj_cnd, decide_eq_true_eq, decide_eq_false_iff_not, Bool.not_eq_true', Bool.not_eq_false', pz_0, Bool.not_eq_false, Bool.not_eq_true] at h95
              refine mj_b_iconst (hE := fe_73_104) (k := ?_)
              exact mj_b_retI (hE := fe_73_105) (hi := in_73) (by first | (simp [c_lckR, pz, h8, h34, h54, h64, h80, h95]; done) | (simp_all [c_lckR, pz]; done) | rfl)
            · simp only [mj_cnd, decide_eq_true_eq, decide_eq_false_iff_not, Bool.not_eq_true', Bool.not_eq_false', pz_0, Bool.not_eq_false, Bool.not_eq_true] at h95
              refine mj_b_sipush (hE := fe_73_98) (k := ?_)
              refine mj_b_goto (hE := fe_73_101) (k := ?_)
              exact mj_b_retI (hE := fe_73_105) (hi := in_73) (by first | (simp [c_lckR, pz, h8, h34, h54, h64, h80, h95]; done) | (simp_all [c_lckR, pz]; done) | rfl)
        · simp only [mj_cnd, decide_eq_true_eq, decide_eq_false_iff_not, Bool.not_eq_true', Bool.not_eq_false', pz_0, Bool.not_eq_false, Bool.not_eq_true] at h64
          refine mj_b_sipush (hE := fe_73_67) (k := ?_)
          exact mj_b_retI (hE := fe_73_70) (hi := in_73) (by first | (simp [c_lckR, pz, h8, h34, h54, h64]; done) | (simp_all [c_lckR, pz]; done) | rfl)
    · simp only [mj_cnd, decide_eq_true_eq, decide_eq_false_iff_not, Bool.not_eq_true', Bool.not_eq_false', pz_0, Bool.not_eq_false, Bool.not_eq_true] at h34
      refine mj_b_sipush (hE := fe_73_37) (k := ?_)
      exact mj_b_retI (hE := fe_73_40) (hi := in_73) (by first | (simp [c_lckR, pz, h8, h34]; done) | (simp_all [c_lckR, pz]; done) | rfl)
/-- all rows that go find a path at their place -/
def c_plf (I : Nat → Nat → Int32) (b : Nat) (pi : Nat → Nat) (p q : Int32) (dq : Bool) (i : Nat) : Bool := pf_taken (c_rowP I b pi i) p dq && !(pf_path (pf_answering (c_rowP I b pi i) p q))
set_option maxHeartbeats 2000000 in
theorem l62 {p q : Int32} {dq : Bool} (hs : c_st sn pi nr nl ex dp I R) (ht : c_top sn sx R) :
    ∀ (k i : Nat) (v5 : Value), i + k = nr → mj_T pj_P 62 3 [.ref 1, .int p, .int q, .int (pz dq), .int (nI i), v5] [] (mz_SH L, I, R) (fun s => s = (some (.int (pz (!(pa_any (c_plf I sn pi p q dq) i k)))), (mz_SH L, I, R))) := by
  obtain ⟨hb, hok, ⟨hn1, hn2⟩, ⟨hl1, hl2⟩, hlk⟩ := hs
  obtain ⟨ht1, ht2, ht3, ht4⟩ := ht
  have hS := sh_S L hb
  have hA := sh_A L hb
  have h1 := sh_1 L
  have hR := hok.1
  intro k
  induction k with
  | zero =>
    intro i v5 hi
    have hin : i = nr := by omega
    subst hin
    refine mj_b_iload (hE := fe_62_3) (hv := rfl) (k := ?_)
    refine mj_b_rload_n (hE := fe_62_5) (hv := rfl) (k := ?_)
    refine mj_b_getQ (hE := fe_62_6) (hM := by assumption) (hv := by assumption) (k := ?_)
    refine mj_b_getV (hE := fe_62_9) (hM := by assumption) (hv := by assumption) (k := ?_)
    refine mj_b_if2 (hE := fe_62_12) (kt := fun h => ?_) (kf := fun h => ?_)
    · refine mj_b_iconst (hE := fe_62_61) (k := ?_)
      exact mj_b_retZ (hE := fe_62_62) (hi := in_62) (Or.inr rfl) rfl
    · simp [mj_cnd] at h
  | succ k ih =>
    intro i v5 hi
    have hi13 : i < 13 := by omega
    obtain ⟨hr1, hr2⟩ := hok.2.2.1 i hi13
    have hC := sh_R L hb hr2
    have hp0 : I (sn + 3 + 2 * pi i) 0 = c_rowP I sn pi i := rfl
    have hnx : ∀ Q v, mj_T pj_P 62 3 [.ref 1, .int p, .int q, .int (pz dq), .int (nI (i + 1)), v] [] (mz_SH L, I, R) Q → mj_T pj_P 62 55 [.ref 1, .int p, .int q, .int (pz dq), .int (nI i), v] [] (mz_SH L, I, R) Q := by
      intro Q v hQ
      refine mj_b_iinc (hE := fe_62_55) (hv := rfl) (k := ?_)
      refine mj_b_goto (hE := fe_62_58) (k := ?_)
      exact (show mj_T pj_P 62 3 [.ref 1, .int p, .int q, .int (pz dq), .int (nI i + 1), v] [] (mz_SH L, I, R) Q from (nI_succ i) ▸ hQ)
    refine mj_b_iload (hE := fe_62_3) (hv := rfl) (k := ?_)
    refine mj_b_rload_n (hE := fe_62_5) (hv := rfl) (k := ?_)
    refine mj_b_getQ (hE := fe_62_6) (hM := by assumption) (hv := by assumption) (k := ?_)
    refine mj_b_getV (hE := fe_62_9) (hM := by assumption) (hv := by assumption) (k := ?_)
    refine mj_b_if2 (hE := fe_62_12) (kt := fun h => ?_) (kf := fun h => ?_)
    · simp only [mj_cnd, decide_eq_true_eq] at h
      exact absurd h (nI_ge (by omega) (by omega))
    · refine mj_b_rload_n (hE := fe_62_15) (hv := rfl) (k := ?_)
      refine mj_b_getQ (hE := fe_62_16) (hM := by assumption) (hv := by assumption) (k := ?_)
      refine mj_b_getQ (hE := fe_62_19) (hM := by assumption) (hv := by assumption) (k := ?_)
      refine mj_b_iload (hE := fe_62_22) (hv := rfl) (k := ?_)
      refine mj_b_aaldQ (hE := fe_62_24) (hM := by assumption) (ht := by decide) (hj := rfl) (hc := by omega) (hn := by decide) (hv := by assumption) (k := ?_)
      refine mj_b_getV (hE := fe_62_25) (hM := by assumption) (hv := by assumption) (k := ?_)
      refine mj_b_istore (hE := fe_62_28) (hx := Nat.le_of_ble_eq_true rfl) (k := ?_)
      refine mj_b_iload (hE := fe_62_30) (hv := rfl) (k := ?_)
      refine mj_b_iload_n (hE := fe_62_32) (hv := rfl) (k := ?_)
      refine mj_b_iload_n (hE := fe_62_33) (hv := rfl) (k := ?_)
      refine mj_b_callR (hE := fe_62_34) (hi := in_63) (h1 := g63 _ _ _ _) (hc := mj_cok_s rfl) (ha := rfl) (hr := rfl) ?_
      refine mj_b_if1 (hE := fe_62_37) (kt := fun h37 => ?_) (kf := fun h37 => ?_)
      · simp only [mj_cnd, decide_eq_true_eq, decide_eq_false_iff_not, Bool.not_eq_true', Bool.not_eq_false', pz_0, Bool.not_eq_false, Bool.not_eq_true] at h37
        exact hnx _ _ ((ih (i + 1) _ (by omega)).mono (fun s hs => by rw [hs]; simp [pa_any, c_plf, h37]))
      · simp only [mj_cnd, decide_eq_true_eq, decide_eq_false_iff_not, Bool.not_eq_true', Bool.not_eq_false', pz_0, Bool.not_eq_false, Bool.not_eq_true] at h37
        refine mj_b_iload (hE := fe_62_40) (hv := rfl) (k := ?_)
        refine mj_b_iload_n (hE := fe_62_42) (hv := rfl) (k := ?_)
        refine mj_b_iload_n (hE := fe_62_43) (hv := rfl) (k := ?_)
        refine mj_b_callR (hE := fe_62_44) (hi := in_64) (h1 := g64 _ _ _ _) (hc := mj_cok_s rfl) (ha := rfl) (hr := rfl) ?_
        refine mj_b_callR (hE := fe_62_47) (hi := in_14) (h1 := g14 _ _) (hc := mj_cok_s rfl) (ha := rfl) (hr := rfl) ?_
        refine mj_b_if1 (hE := fe_62_50) (kt := fun h50 => ?_) (kf := fun h50 => ?_)
        · simp only [mj_cnd, decide_eq_true_eq, decide_eq_false_iff_not, Bool.not_eq_true', Bool.not_eq_false', pz_0, Bool.not_eq_false, Bool.not_eq_true] at h50
          exact hnx _ _ ((ih (i + 1) _ (by omega)).mono (fun s hs => by rw [hs]; simp [pa_any, c_plf, h37, h50]))
        · simp only [mj_cnd, decide_eq_true_eq, decide_eq_false_iff_not, Bool.not_eq_true', Bool.not_eq_false', pz_0, Bool.not_eq_false, Bool.not_eq_true] at h50
          refine mj_b_iconst (hE := fe_62_53) (k := ?_)
          exact mj_b_retZ (hE := fe_62_54) (hi := in_62) (by first | decide | exact pz_01 _) (by first | (simp [pa_any, c_plf, pz, h37, h50]; done) | (simp_all [pa_any, c_plf, pz]; done) | rfl)
def c_plc (I : Nat → Nat → Int32) (b : Nat) (pi : Nat → Nat) (nr : Nat) (p q : Int32) (dq : Bool) : Bool := !(pa_any (c_plf I b pi p q dq) 0 nr)
/-- LockedTree.hasPlaces -/
theorem g62 (p q : Int32) (dq : Bool) (hs : c_st sn pi nr nl ex dp I R) (ht : c_top sn sx R) :
    mj_G pj_P 62 [.ref 1, .int p, .int q, .int (pz dq)] (mz_SH L, I, R) (fun s => s = (some (.int (pz (c_plc I sn pi nr p q dq))), (mz_SH L, I, R))) := by
  refine mj_enter in_62 (L := [.ref 1, .int p, .int q, .int (pz dq), .retAddr 0, .retAddr 0]) rfl ?_
  refine mj_b_iconst (hE := fe_62_0) (k := ?_)
  refine mj_b_istore (hE := fe_62_1) (hx := Nat.le_of_ble_eq_true rfl) (k := ?_)
  exact l62 hs ht nr 0 _ (by omega)
def c_movR (I : Nat → Nat → Int32) (b : Nat) (pi : Nat → Nat) (dp al : Nat → Bool) (nr nl nc : Nat) (p q : Int32) : Int32 :=
  if c_tbar I b pi dp al nr nl nc q = true ∨ c_tbar I b pi dp al nr nl nc p = true then 423 else if c_plc I b pi nr p q true = true then -1 else 507
set_option maxHeartbeats 2000000 in
/-- LockedTree.moveRefusal -/
theorem g68 (p q : Int32) (hs : c_st sn pi nr nl ex dp I R) (hh : c_hd nc al ng I R) (ht : c_top sn sx R) :
    mj_G pj_P 68 [.ref 1, .int p, .int q] (mz_SH L, I, R) (fun s => s = (some (.int (c_movR I sn pi dp al nr nl nc p q)), (mz_SH L, I, R))) := by
  have h1 := sh_1 L
  refine mj_enter in_68 (L := [.ref 1, .int p, .int q]) rfl ?_
  refine mj_b_rload_n (hE := fe_68_0) (hv := rfl) (k := ?_)
  refine mj_b_iload_n (hE := fe_68_1) (hv := rfl) (k := ?_)
  refine mj_b_callR (hE := fe_68_2) (hi := in_61) (h1 := g61 _ hs hh ht) (hc := mj_cok_v rfl rfl (by assumption)) (ha := rfl) (hr := rfl) ?_
  refine mj_b_if1 (hE := fe_68_5) (kt := fun h5 => ?_) (kf := fun h5 => ?_)
  · simp only [mj_cnd, decide_eq_true_eq, decide_eq_false_iff_not, Bool.not_eq_true', Bool.not_eq_false', pz_0, Bool.not_eq_false, Bool.not_eq_true] at h5
    refine mj_b_sipush (hE := fe_68_16) (k := ?_)
    exact mj_b_retI (hE := fe_68_19) (hi := in_68) (by first | (simp [c_movR, pz, h5]; done) | (simp_all [c_movR, pz]; done) | rfl)
  · simp only [mj_cnd, decide_eq_true_eq, decide_eq_false_iff_not, Bool.not_eq_true', Bool.not_eq_false', pz_0, Bool.not_eq_false, Bool.not_eq_true] at h5
    refine mj_b_rload_n (hE := fe_68_8) (hv := rfl) (k := ?_)
    refine mj_b_iload_n (hE := fe_68_9) (hv := rfl) (k := ?_)
    refine mj_b_callR (hE := fe_68_10) (hi := in_61) (h1 := g61 _ hs hh ht) (hc := mj_cok_v rfl rfl (by assumption)) (ha := rfl) (hr := rfl) ?_
    refine mj_b_if1 (hE := fe_68_13) (kt := fun h13 => ?_) (kf := fun h13 => ?_)
    · simp only [mj_cnd, decide_eq_true_eq, decide_eq_false_iff_not, Bool.not_eq_true', Bool.not_eq_false', pz_0, Bool.not_eq_false, Bool.not_eq_true] at h13
      refine mj_b_rload_n (hE := fe_68_20) (hv := rfl) (k := ?_)
      refine mj_b_iload_n (hE := fe_68_21) (hv := rfl) (k := ?_)
      refine mj_b_iload_n (hE := fe_68_22) (hv := rfl) (k := ?_)
      refine mj_b_iconst (hE := fe_68_23) (k := ?_)
      refine mj_b_callR (hE := fe_68_24) (hi := in_62) (h1 := g62 p q true hs ht) (hc := mj_cok_v rfl rfl (by assumption)) (ha := rfl) (hr := rfl) ?_
      refine mj_b_if1 (hE := fe_68_27) (kt := fun h27 => ?_) (kf := fun h27 => ?_)
      · simp only [mj_cnd, decide_eq_true_eq, decide_eq_false_iff_not, Bool.not_eq_true', Bool.not_eq_false', pz_0, Bool.not_eq_false, Bool.not_eq_true] at h27
        refine mj_b_sipush (hE := fe_68_34) (k := ?_)
        exact mj_b_retI (hE := fe_68_37) (hi := in_68) (by first | (simp [c_movR, pz, h5, h13, h27]; done) | (simp_all [c_movR, pz]; done) | rfl)
      · simp only [mj_cnd, decide_eq_true_eq, decide_eq_false_iff_not, Bool.not_eq_true', Bool.not_eq_false', pz_0, Bool.not_eq_false, Bool.not_eq_true] at h27
        refine mj_b_iconst (hE := fe_68_30) (k := ?_)
        refine mj_b_goto (hE := fe_68_31) (k := ?_)
        exact mj_b_retI (hE := fe_68_37) (hi := in_68) (by first | (simp [c_movR, pz, h5, h13, h27]; done) | (simp_all [c_movR, pz]; done) | rfl)
    · simp only [mj_cnd, decide_eq_true_eq, decide_eq_false_iff_not, Bool.not_eq_true', Bool.not_eq_false', pz_0, Bool.not_eq_false, Bool.not_eq_true] at h13
      refine mj_b_sipush (hE := fe_68_16) (k := ?_)
      exact mj_b_retI (hE := fe_68_19) (hi := in_68) (by first | (simp [c_movR, pz, h5, h13]; done) | (simp_all [c_movR, pz]; done) | rfl)
def c_cw (I : Nat → Nat → Int32) (b : Nat) (pi : Nat → Nat) (nr : Nat) (r : Int32) : Int32 := c_cnt (fun i => pf_within (c_rowP I b pi i) r) 0 nr
def c_copR (I : Nat → Nat → Int32) (b : Nat) (pi : Nat → Nat) (dp al : Nat → Bool) (nr nl nc : Nat) (p q : Int32) (dq : Bool) : Int32 :=
  if c_tbar I b pi dp al nr nl nc q = true then 423 else if c_plc I b pi nr p q dq = false then 507
  else if nI nr - 1 - c_cw I b pi nr q + (if dq = true then c_cw I b pi nr p else 1) ≤ 12 then -1 else 507
set_option maxHeartbeats 2000000 in
/-- LockedTree.copyRefusal -/
theorem g60 (p q : Int32) (dq : Bool) (hs : c_st sn pi nr nl ex dp I R) (hh : c_hd nc al ng I R) (ht : c_top sn sx R) :
    mj_G pj_P 60 [.ref 1, .int p, .int q, .int (pz dq)] (mz_SH L, I, R) (fun s => s = (some (.int (c_copR I sn pi dp al nr nl nc p q dq)), (mz_SH L, I, R))) := by
  have h1 := sh_1 L
  have ht1 := ht.1
  have hS := sh_S L hs.1
  have hn1 := hs.2.2.1.1
  refine mj_enter in_60 (L := [.ref 1, .int p, .int q, .int (pz dq), .retAddr 0, .retAddr 0]) rfl ?_
  refine mj_b_rload_n (hE := fe_60_0) (hv := rfl) (k := ?_)
  refine mj_b_iload_n (hE := fe_60_1) (hv := rfl) (k := ?_)
  refine mj_b_callR (hE := fe_60_2) (hi := in_61) (h1 := g61 _ hs hh ht) (hc := mj_cok_v rfl rfl (by assumption)) (ha := rfl) (hr := rfl) ?_
  refine mj_b_if1 (hE := fe_60_5) (kt := fun h5 => ?_) (kf := fun h5 => ?_)
  · simp only [mj_cnd, decide_eq_true_eq, decide_eq_false_iff_not, Bool.not_eq_true', Bool.not_eq_false', pz_0, Bool.not_eq_false, Bool.not_eq_true] at h5
    refine mj_b_rload_n (hE := fe_60_12) (hv := rfl) (k := ?_)
    refine mj_b_iload_n (hE := fe_60_13) (hv := rfl) (k := ?_)
    refine mj_b_iload_n (hE := fe_60_14) (hv := rfl) (k := ?_)
    refine mj_b_iload_n (hE := fe_60_15) (hv := rfl) (k := ?_)
    refine mj_b_callR (hE := fe_60_16) (hi := in_62) (h1 := g62 _ _ _ hs ht) (hc := mj_cok_v rfl rfl (by assumption)) (ha := rfl) (hr := rfl) ?_
    refine mj_b_if1 (hE := fe_60_19) (kt := fun h19 => ?_) (kf := fun h19 => ?_)
    · simp only [mj_cnd, decide_eq_true_eq, decide_eq_false_iff_not, Bool.not_eq_true', Bool.not_eq_false', pz_0, Bool.not_eq_false, Bool.not_eq_true] at h19
      refine mj_b_iload_n (hE := fe_60_26) (hv := rfl) (k := ?_)
      refine mj_b_if1 (hE := fe_60_27) (kt := fun h27 => ?_) (kf := fun h27 => ?_)
      · simp only [mj_cnd, decide_eq_true_eq, decide_eq_false_iff_not, Bool.not_eq_true', Bool.not_eq_false', pz_0, Bool.not_eq_false, Bool.not_eq_true] at h27
        refine mj_b_iconst (hE := fe_60_41) (k := ?_)
        refine mj_b_istore (hE := fe_60_42) (hx := Nat.le_of_ble_eq_true rfl) (k := ?_)
        refine mj_b_rload_n (hE := fe_60_44) (hv := rfl) (k := ?_)
        refine mj_b_getQ (hE := fe_60_45) (hM := by assumption) (hv := by assumption) (k := ?_)
        refine mj_b_getV (hE := fe_60_48) (hM := by assumption) (hv := by assumption) (k := ?_)
        refine mj_b_iconst (hE := fe_60_51) (k := ?_)
        refine mj_b_isub (hE := fe_60_52) (k := ?_)
        refine mj_b_rload_n (hE := fe_60_53) (hv := rfl) (k := ?_)
        refine mj_b_getQ (hE := fe_60_54) (hM := by assumption) (hv := by assumption) (k := ?_)
        refine mj_b_iload_n (hE := fe_60_57) (hv := rfl) (k := ?_)
        refine mj_b_callR (hE := fe_60_58) (hi := in_65) (h1 := g65 _ hs) (hc := mj_cok_v rfl rfl (by assumption)) (ha := rfl) (hr := rfl) ?_
        refine mj_b_isub (hE := fe_60_61) (k := ?_)
        refine mj_b_istore (hE := fe_60_62) (hx := Nat.le_of_ble_eq_true rfl) (k := ?_)
        refine mj_b_iload (hE := fe_60_64) (hv := rfl) (k := ?_)
        refine mj_b_iload (hE := fe_60_66) (hv := rfl) (k := ?_)
        refine mj_b_iadd (hE := fe_60_68) (k := ?_)
        refine mj_b_bipush (hE := fe_60_69) (k := ?_)
        refine mj_b_if2 (hE := fe_60_71) (kt := fun h71 => ?_) (kf := fun h71 => ?_)
        · simp only [mj_cnd, decide_eq_true_eq, decide_eq_false_iff_not, Bool.not_eq_true', Bool.not_eq_false', pz_0, Bool.not_eq_false, Bool.not_eq_true] at h71
          refine mj_b_iconst (hE := fe_60_80) (k := ?_)
          exact mj_b_retI (hE := fe_60_81) (hi := in_60) (by first | (simp [c_copR, c_cw, pz, h5, h19, h27, h71]; done) | (simp_all [c_copR, c_cw, pz]; done) | rfl)
        · simp only [mj_cnd, decide_eq_true_eq, decide_eq_false_iff_not, Bool.not_eq_true', Bool.not_eq_false', pz_0, Bool.not_eq_false, Bool.not_eq_true] at h71
          refine mj_b_sipush (hE := fe_60_74) (k := ?_)
          refine mj_b_goto (hE := fe_60_77) (k := ?_)
          exact mj_b_retI (hE := fe_60_81) (hi := in_60) (by first | (simp [c_copR, c_cw, pz, h5, h19, h27, h71]; done) | (simp_all [c_copR, c_cw, pz]; done) | rfl)
      · simp only [mj_cnd, decide_eq_true_eq, decide_eq_false_iff_not, Bool.not_eq_true', Bool.not_eq_false', pz_0, Bool.not_eq_false, Bool.not_eq_true] at h27
        refine mj_b_rload_n (hE := fe_60_30) (hv := rfl) (k := ?_)
        refine mj_b_getQ (hE := fe_60_31) (hM := by assumption) (hv := by assumption) (k := ?_)
        refine mj_b_iload_n (hE := fe_60_34) (hv := rfl) (k := ?_)
        refine mj_b_callR (hE := fe_60_35) (hi := in_65) (h1 := g65 _ hs) (hc := mj_cok_v rfl rfl (by assumption)) (ha := rfl) (hr := rfl) ?_
        refine mj_b_goto (hE := fe_60_38) (k := ?_)
        refine mj_b_istore (hE := fe_60_42) (hx := Nat.le_of_ble_eq_true rfl) (k := ?_)
        refine mj_b_rload_n (hE := fe_60_44) (hv := rfl) (k := ?_)
        refine mj_b_getQ (hE := fe_60_45) (hM := by assumption) (hv := by assumption) (k := ?_)
        refine mj_b_getV (hE := fe_60_48) (hM := by assumption) (hv := by assumption) (k := ?_)
        refine mj_b_iconst (hE := fe_60_51) (k := ?_)
        refine mj_b_isub (hE := fe_60_52) (k := ?_)
        refine mj_b_rload_n (hE := fe_60_53) (hv := rfl) (k := ?_)
        refine mj_b_getQ (hE := fe_60_54) (hM := by assumption) (hv := by assumption) (k := ?_)
        refine mj_b_iload_n (hE := fe_60_57) (hv := rfl) (k := ?_)
        refine mj_b_callR (hE := fe_60_58) (hi := in_65) (h1 := g65 _ hs) (hc := mj_cok_v rfl rfl (by assumption)) (ha := rfl) (hr := rfl) ?_
        refine mj_b_isub (hE := fe_60_61) (k := ?_)
        refine mj_b_istore (hE := fe_60_62) (hx := Nat.le_of_ble_eq_true rfl) (k := ?_)
        refine mj_b_iload (hE := fe_60_64) (hv := rfl) (k := ?_)
        refine mj_b_iload (hE := fe_60_66) (hv := rfl) (k := ?_)
        refine mj_b_iadd (hE := fe_60_68) (k := ?_)
        refine mj_b_bipush (hE := fe_60_69) (k := ?_)
        refine mj_b_if2 (hE := fe_60_71) (kt := fun h71 => ?_) (kf := fun h71 => ?_)
        · simp only [mj_cnd, decide_eq_true_eq, decide_eq_false_iff_not, Bool.not_eq_true', Bool.not_eq_false', pz_0, Bool.not_eq_false, Bool.not_eq_true] at h71
          refine mj_b_iconst (hE := fe_60_80) (k := ?_)
          exact mj_b_retI (hE := fe_60_81) (hi := in_60) (by first | (simp [c_copR, c_cw, pz, h5, h19, h27, h71]; done) | (simp_all [c_copR, c_cw, pz]; done) | rfl)
        · simp only [mj_cnd, decide_eq_true_eq, decide_eq_false_iff_not, Bool.not_eq_true', Bool.not_eq_false', pz_0, Bool.not_eq_false, Bool.not_eq_true] at h71
          refine mj_b_sipush (hE := fe_60_74) (k := ?_)
          refine mj_b_goto (hE := fe_60_77) (k := ?_)
          exact mj_b_retI (hE := fe_60_81) (hi := in_60) (by first | (simp [c_copR, c_cw, pz, h5, h19, h27, h71]; done) | (simp_all [c_copR, c_cw, pz]; done) | rfl)
    · simp only [mj_cnd, decide_eq_true_eq, decide_eq_false_iff_not, Bool.not_eq_true', Bool.not_eq_false', pz_0, Bool.not_eq_false, Bool.not_eq_true] at h19
      refine mj_b_sipush (hE := fe_60_22) (k := ?_)
      exact mj_b_retI (hE := fe_60_25) (hi := in_60) (by first | (simp [c_copR, c_cw, pz, h5, h19]; done) | (simp_all [c_copR, c_cw, pz]; done) | rfl)
  · simp only [mj_cnd, decide_eq_true_eq, decide_eq_false_iff_not, Bool.not_eq_true', Bool.not_eq_false', pz_0, Bool.not_eq_false, Bool.not_eq_true] at h5
    refine mj_b_sipush (hE := fe_60_8) (k := ?_)
    exact mj_b_retI (hE := fe_60_11) (hi := in_60) (by first | (simp [c_copR, c_cw, pz, h5]; done) | (simp_all [c_copR, c_cw, pz]; done) | rfl)
end HO
