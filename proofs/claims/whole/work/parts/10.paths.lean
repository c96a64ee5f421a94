/-! ===== numbers and paths: the static methods of both sides ===== -/
def pz (b : Bool) : Int32 := if b = true then 1 else 0
theorem pz_01 (b : Bool) : pz b = 0 ∨ pz b = 1 := by cases b <;> simp [pz]
theorem pz_t : pz true = 1 := rfl
theorem pz_f : pz false = 0 := rfl
theorem pz_0 (b : Bool) : pz b = 0 ↔ b = false := by cases b <;> simp [pz]
theorem pz_1 (b : Bool) : pz b = 1 ↔ b = true := by cases b <;> simp [pz]
theorem i32_div8 (r : Int32) : (r / 8).toInt = r.toInt.tdiv 8 := by
  rw [Int32.toInt_div_of_ne_right _ _ (by decide)]
  rfl
theorem i32_pos {r : Int32} (h : ¬ r ≤ 0) : 0 < r.toInt := by
  rw [Int32.le_iff_toInt_le, Int32.toInt_zero] at h
  omega
theorem i32_npos {r : Int32} (h : r.toInt < 1) : r ≤ 0 := by
  rw [Int32.le_iff_toInt_le, Int32.toInt_zero]
  omega
theorem i32_d8lt {r : Int32} {n : Nat} (h0 : ¬ r ≤ 0) (hr : r.toInt < 8 ^ (n + 1)) : (r / 8).toInt < 8 ^ n := by
  have hp := i32_pos h0
  rw [i32_div8, Int.tdiv_eq_ediv_of_nonneg (by omega)]
  rw [Int.pow_succ] at hr
  omega
theorem i32_lt11 (p : Int32) : p.toInt < 8 ^ 11 := by
  have := p.toInt_lt
  omega
/-- q is above r (fuel 11 serves every int) -/
def pf_bel : Nat → Int32 → Int32 → Bool
  | 0, _, _ => false
  | n + 1, r, q => if r ≤ 0 then false else (decide (r / 8 = q) || pf_bel n (r / 8) q)
def pf_below (p q : Int32) : Bool := pf_bel 11 p q
def pf_within (p q : Int32) : Bool := decide (p = q) || pf_below p q
/-- no name of r is 0 -/
def pf_pth : Nat → Int32 → Bool
  | 0, _ => true
  | n + 1, r => if r ≤ 0 then true else (!decide (r - r / 8 * 8 = 0) && pf_pth n (r / 8))
def pf_path (p : Int32) : Bool := !decide (p < 0) && (decide (p ≤ 4095) && pf_pth 11 p)
def pf_from (n a b : Int32) : Bool := !decide (n < a) && !decide (b < n)
set_option maxHeartbeats 1000000 in
theorem l26 (M : mj_H) (p q : Int32) : ∀ (n : Nat) (r : Int32), r.toInt < 8 ^ n → mj_T pj_P 26 2 [.int p, .int q, .int r] [] M (fun s => s = (some (.int (pz (pf_bel n r q))), M)) := by
  intro n
  induction n with
  | zero =>
    intro r hr
    have hr0 : r ≤ 0 := i32_npos hr
    refine mj_b_iload_n (hE := fe_26_2) (hv := rfl) (k := ?_)
    refine mj_b_if1 (hE := fe_26_3) (kt := fun h => ?_) (kf := fun h => ?_)
    · refine mj_b_iconst (hE := fe_26_24) (k := ?_)
      exact mj_b_retZ (hE := fe_26_25) (hi := in_26) (Or.inl rfl) rfl
    · simp [mj_cnd, hr0] at h
  | succ n ih =>
    intro r hr
    refine mj_b_iload_n (hE := fe_26_2) (hv := rfl) (k := ?_)
    refine mj_b_if1 (hE := fe_26_3) (kt := fun h => ?_) (kf := fun h => ?_)
    · simp only [mj_cnd, decide_eq_true_eq] at h
      refine mj_b_iconst (hE := fe_26_24) (k := ?_)
      exact mj_b_retZ (hE := fe_26_25) (hi := in_26) (Or.inl rfl) (by simp [pf_bel, pz, h])
    · simp only [mj_cnd, decide_eq_false_iff_not] at h
      refine mj_b_iload_n (hE := fe_26_6) (hv := rfl) (k := ?_)
      refine mj_b_bipush (hE := fe_26_7) (k := ?_)
      refine mj_b_idiv (hE := fe_26_9) (hb := by decide) (k := ?_)
      refine mj_b_iload_n (hE := fe_26_10) (hv := rfl) (k := ?_)
      refine mj_b_if2 (hE := fe_26_11) (kt := fun g => ?_) (kf := fun g => ?_)
      · simp only [mj_cnd, Bool.not_eq_true', decide_eq_false_iff_not] at g
        refine mj_b_iload_n (hE := fe_26_16) (hv := rfl) (k := ?_)
        refine mj_b_bipush (hE := fe_26_17) (k := ?_)
        refine mj_b_idiv (hE := fe_26_19) (hb := by decide) (k := ?_)
        refine mj_b_istore_n (hE := fe_26_20) (hx := Nat.le_of_ble_eq_true rfl) (k := ?_)
        refine mj_b_goto (hE := fe_26_21) (k := ?_)
        exact (ih (r / 8) (i32_d8lt h hr)).mono (fun s hs => by rw [hs]; simp [pf_bel, h, g])
      · simp only [mj_cnd, Bool.not_eq_false', decide_eq_true_eq] at g
        refine mj_b_iconst (hE := fe_26_14) (k := ?_)
        exact mj_b_retZ (hE := fe_26_15) (hi := in_26) (Or.inr rfl) (by simp [pf_bel, pz, h, g])
/-- Paths.isBelow -/
theorem g26 (M : mj_H) (p q : Int32) : mj_G pj_P 26 [.int p, .int q] M (fun s => s = (some (.int (pz (pf_below p q))), M)) := by
  refine mj_enter in_26 (L := [.int p, .int q, .retAddr 0]) rfl ?_
  refine mj_b_iload_n (hE := fe_26_0) (hv := rfl) (k := ?_)
  refine mj_b_istore_n (hE := fe_26_1) (hx := Nat.le_of_ble_eq_true rfl) (k := ?_)
  exact l26 M p q 11 p (i32_lt11 p)
/-- Paths.isWithin -/
theorem g55 (M : mj_H) (p q : Int32) : mj_G pj_P 55 [.int p, .int q] M (fun s => s = (some (.int (pz (pf_within p q))), M)) := by
  refine mj_enter in_55 (L := [.int p, .int q]) rfl ?_
  refine mj_b_iload_n (hE := fe_55_0) (hv := rfl) (k := ?_)
  refine mj_b_iload_n (hE := fe_55_1) (hv := rfl) (k := ?_)
  refine mj_b_if2 (hE := fe_55_2) (kt := fun h => ?_) (kf := fun h => ?_)
  · simp only [mj_cnd, decide_eq_true_eq] at h
    refine mj_b_iconst (hE := fe_55_13) (k := ?_)
    refine mj_b_goto (hE := fe_55_14) (k := ?_)
    exact mj_b_retZ (hE := fe_55_18) (hi := in_55) (Or.inr rfl) (by simp [pf_within, pz, h])
  · simp only [mj_cnd, decide_eq_false_iff_not] at h
    refine mj_b_iload_n (hE := fe_55_5) (hv := rfl) (k := ?_)
    refine mj_b_iload_n (hE := fe_55_6) (hv := rfl) (k := ?_)
    refine mj_b_callR (hE := fe_55_7) (hi := in_26) (h1 := g26 M p q) (hc := mj_cok_s rfl) (ha := rfl) (hr := rfl) ?_
    refine mj_b_if1 (hE := fe_55_10) (kt := fun g => ?_) (kf := fun g => ?_)
    · simp only [mj_cnd, decide_eq_true_eq, pz_0] at g
      refine mj_b_iconst (hE := fe_55_17) (k := ?_)
      exact mj_b_retZ (hE := fe_55_18) (hi := in_55) (Or.inl rfl) (by simp [pf_within, pz, h, g])
    · simp only [mj_cnd, decide_eq_false_iff_not, pz_0, Bool.not_eq_false] at g
      refine mj_b_iconst (hE := fe_55_13) (k := ?_)
      refine mj_b_goto (hE := fe_55_14) (k := ?_)
      exact mj_b_retZ (hE := fe_55_18) (hi := in_55) (Or.inr rfl) (by simp [pf_within, pz, g])
/-- Paths.parentOf -/
theorem g31 (M : mj_H) (p : Int32) : mj_G pj_P 31 [.int p] M (fun s => s = (some (.int (p / 8)), M)) := by
  refine mj_enter in_31 (L := [.int p]) rfl ?_
  refine mj_b_iload_n (hE := fe_31_0) (hv := rfl) (k := ?_)
  refine mj_b_bipush (hE := fe_31_1) (k := ?_)
  refine mj_b_idiv (hE := fe_31_3) (hb := by decide) (k := ?_)
  exact mj_b_retI (hE := fe_31_4) (hi := in_31) rfl
/-- LockedTree.isFrom -/
theorem g17 (M : mj_H) (n a b : Int32) : mj_G pj_P 17 [.int n, .int a, .int b] M (fun s => s = (some (.int (pz (pf_from n a b))), M)) := by
  refine mj_enter in_17 (L := [.int n, .int a, .int b]) rfl ?_
  refine mj_b_iload_n (hE := fe_17_0) (hv := rfl) (k := ?_)
  refine mj_b_iload_n (hE := fe_17_1) (hv := rfl) (k := ?_)
  refine mj_b_if2 (hE := fe_17_2) (kt := fun h2 => ?_) (kf := fun h2 => ?_)
  · simp only [mj_cnd, decide_eq_true_eq, decide_eq_false_iff_not, Bool.not_eq_true', Bool.not_eq_false', pz_0, Bool.not_eq_false, Bool.not_eq_true] at h2
    refine mj_b_iconst (hE := fe_17_14) (k := ?_)
    exact mj_b_retZ (hE := fe_17_15) (hi := in_17) (by first | decide | exact pz_01 _) (by first | (simp [pf_from, pz, h2]; done) | (simp_all [pf_from, pz]; done) | rfl)
  · simp only [mj_cnd, decide_eq_true_eq, decide_eq_false_iff_not, Bool.not_eq_true', Bool.not_eq_false', pz_0, Bool.not_eq_false, Bool.not_eq_true] at h2
    refine mj_b_iload_n (hE := fe_17_5) (hv := rfl) (k := ?_)
    refine mj_b_iload_n (hE := fe_17_6) (hv := rfl) (k := ?_)
    refine mj_b_if2 (hE := fe_17_7) (kt := fun h7 => ?_) (kf := fun h7 => ?_)
    · simp only [mj_cnd, decide_eq_true_eq, decide_eq_false_iff_not, Bool.not_eq_true', Bool.not_eq_false', pz_0, Bool.not_eq_false, Bool.not_eq_true] at h7
      refine mj_b_iconst (hE := fe_17_14) (k := ?_)
      exact mj_b_retZ (hE := fe_17_15) (hi := in_17) (by first | decide | exact pz_01 _) (by first | (simp [pf_from, pz, h2, h7]; done) | (simp_all [pf_from, pz]; done) | rfl)
    · simp only [mj_cnd, decide_eq_true_eq, decide_eq_false_iff_not, Bool.not_eq_true', Bool.not_eq_false', pz_0, Bool.not_eq_false, Bool.not_eq_true] at h7
      refine mj_b_iconst (hE := fe_17_10) (k := ?_)
      refine mj_b_goto (hE := fe_17_11) (k := ?_)
      exact mj_b_retZ (hE := fe_17_15) (hi := in_17) (by first | decide | exact pz_01 _) (by first | (simp [pf_from, pz, h2, h7]; done) | (simp_all [pf_from, pz]; done) | rfl)
set_option maxHeartbeats 1000000 in
theorem l14 (M : mj_H) (p : Int32) : ∀ (n : Nat) (r : Int32), r.toInt < 8 ^ n → mj_T pj_P 14 15 [.int p, .int r] [] M (fun s => s = (some (.int (pz (pf_pth n r))), M)) := by
  intro n
  induction n with
  | zero =>
    intro r hr
    have hr0 : r ≤ 0 := i32_npos hr
    refine mj_b_iload_n (hE := fe_14_15) (hv := rfl) (k := ?_)
    refine mj_b_if1 (hE := fe_14_16) (kt := fun h => ?_) (kf := fun h => ?_)
    · refine mj_b_iconst (hE := fe_14_36) (k := ?_)
      exact mj_b_retZ (hE := fe_14_37) (hi := in_14) (Or.inr rfl) rfl
    · simp [mj_cnd, hr0] at h
  | succ n ih =>
    intro r hr
    refine mj_b_iload_n (hE := fe_14_15) (hv := rfl) (k := ?_)
    refine mj_b_if1 (hE := fe_14_16) (kt := fun h => ?_) (kf := fun h => ?_)
    · simp only [mj_cnd, decide_eq_true_eq] at h
      refine mj_b_iconst (hE := fe_14_36) (k := ?_)
      exact mj_b_retZ (hE := fe_14_37) (hi := in_14) (Or.inr rfl) (by simp [pf_pth, pz, h])
    · simp only [mj_cnd, decide_eq_false_iff_not] at h
      refine mj_b_iload_n (hE := fe_14_19) (hv := rfl) (k := ?_)
      refine mj_b_bipush (hE := fe_14_20) (k := ?_)
      refine mj_b_irem (hE := fe_14_22) (hb := by decide) (k := ?_)
      refine mj_b_if1 (hE := fe_14_23) (kt := fun g => ?_) (kf := fun g => ?_)
      · simp only [mj_cnd, Bool.not_eq_true', decide_eq_false_iff_not] at g
        refine mj_b_iload_n (hE := fe_14_28) (hv := rfl) (k := ?_)
        refine mj_b_bipush (hE := fe_14_29) (k := ?_)
        refine mj_b_idiv (hE := fe_14_31) (hb := by decide) (k := ?_)
        refine mj_b_istore_n (hE := fe_14_32) (hx := Nat.le_of_ble_eq_true rfl) (k := ?_)
        refine mj_b_goto (hE := fe_14_33) (k := ?_)
        exact (ih (r / 8) (i32_d8lt h hr)).mono (fun s hs => by rw [hs]; simp [pf_pth, h, g])
      · simp only [mj_cnd, Bool.not_eq_false', decide_eq_true_eq] at g
        refine mj_b_iconst (hE := fe_14_26) (k := ?_)
        exact mj_b_retZ (hE := fe_14_27) (hi := in_14) (Or.inl rfl) (by simp [pf_pth, pz, h, g])
/-- Paths.isPath -/
theorem g14 (M : mj_H) (p : Int32) : mj_G pj_P 14 [.int p] M (fun s => s = (some (.int (pz (pf_path p))), M)) := by
  refine mj_enter in_14 (L := [.int p, .retAddr 0]) rfl ?_
  refine mj_b_iload_n (hE := fe_14_0) (hv := rfl) (k := ?_)
  refine mj_b_if1 (hE := fe_14_1) (kt := fun h => ?_) (kf := fun h => ?_)
  · simp only [mj_cnd, decide_eq_true_eq] at h
    refine mj_b_iconst (hE := fe_14_11) (k := ?_)
    exact mj_b_retZ (hE := fe_14_12) (hi := in_14) (Or.inl rfl) (by simp [pf_path, pz, h])
  · simp only [mj_cnd, decide_eq_false_iff_not] at h
    refine mj_b_iload_n (hE := fe_14_4) (hv := rfl) (k := ?_)
    refine mj_b_sipush (hE := fe_14_5) (k := ?_)
    refine mj_b_if2 (hE := fe_14_8) (kt := fun g => ?_) (kf := fun g => ?_)
    · simp only [mj_cnd, decide_eq_true_eq] at g
      refine mj_b_iload_n (hE := fe_14_13) (hv := rfl) (k := ?_)
      refine mj_b_istore_n (hE := fe_14_14) (hx := Nat.le_of_ble_eq_true rfl) (k := ?_)
      exact (l14 M p 11 p (i32_lt11 p)).mono (fun s hs => by rw [hs]; simp [pf_path, h, g])
    · simp only [mj_cnd, decide_eq_false_iff_not] at g
      refine mj_b_iconst (hE := fe_14_11) (k := ?_)
      exact mj_b_retZ (hE := fe_14_12) (hi := in_14) (Or.inl rfl) (by simp [pf_path, pz, g])
/-- LockedTree.isKey -/
theorem g70 (M : mj_H) (k : Int32) : mj_G pj_P 70 [.int k] M (fun s => s = (some (.int (pz (pf_from k 0 2))), M)) := by
  refine mj_enter in_70 (L := [.int k]) rfl ?_
  refine mj_b_iload_n (hE := fe_70_0) (hv := rfl) (k := ?_)
  refine mj_b_iconst (hE := fe_70_1) (k := ?_)
  refine mj_b_iconst (hE := fe_70_2) (k := ?_)
  refine mj_b_callR (hE := fe_70_3) (hi := in_17) (h1 := g17 M k 0 2) (hc := mj_cok_s rfl) (ha := rfl) (hr := rfl) ?_
  exact mj_b_retZ (hE := fe_70_6) (hi := in_70) (pz_01 _) rfl
/-- LockedTree.isTaken -/
def pf_taken (x p : Int32) (deep : Bool) : Bool := decide (x = p) || (deep && pf_below x p)
theorem g63 (M : mj_H) (x p : Int32) (deep : Bool) : mj_G pj_P 63 [.int x, .int p, .int (pz deep)] M (fun s => s = (some (.int (pz (pf_taken x p deep))), M)) := by
  refine mj_enter in_63 (L := [.int x, .int p, .int (pz deep)]) rfl ?_
  refine mj_b_iload_n (hE := fe_63_0) (hv := rfl) (k := ?_)
  refine mj_b_iload_n (hE := fe_63_1) (hv := rfl) (k := ?_)
  refine mj_b_if2 (hE := fe_63_2) (kt := fun h2 => ?_) (kf := fun h2 => ?_)
  · simp only [mj_cnd, decide_eq_true_eq, decide_eq_false_iff_not, Bool.not_eq_true', Bool.not_eq_false', pz_0, Bool.not_eq_false, Bool.not_eq_true] at h2
    refine mj_b_iconst (hE := fe_63_17) (k := ?_)
    refine mj_b_goto (hE := fe_63_18) (k := ?_)
    exact mj_b_retZ (hE := fe_63_22) (hi := in_63) (by first | decide | exact pz_01 _) (by first | (simp [pf_taken, pz, h2]; done) | (simp_all [pf_taken, pz]; done) | rfl)
  · simp only [mj_cnd, decide_eq_true_eq, decide_eq_false_iff_not, Bool.not_eq_true', Bool.not_eq_false', pz_0, Bool.not_eq_false, Bool.not_eq_true] at h2
    refine mj_b_iload_n (hE := fe_63_5) (hv := rfl) (k := ?_)
    refine mj_b_if1 (hE := fe_63_6) (kt := fun h6 => ?_) (kf := fun h6 => ?_)
    · simp only [mj_cnd, decide_eq_true_eq, decide_eq_false_iff_not, Bool.not_eq_true', Bool.not_eq_false', pz_0, Bool.not_eq_false, Bool.not_eq_true] at h6
      refine mj_b_iconst (hE := fe_63_21) (k := ?_)
      exact mj_b_retZ (hE := fe_63_22) (hi := in_63) (by first | decide | exact pz_01 _) (by first | (simp [pf_taken, pz, h2, h6]; done) | (simp_all [pf_taken, pz]; done) | rfl)
    · simp only [mj_cnd, decide_eq_true_eq, decide_eq_false_iff_not, Bool.not_eq_true', Bool.not_eq_false', pz_0, Bool.not_eq_false, Bool.not_eq_true] at h6
      refine mj_b_iload_n (hE := fe_63_9) (hv := rfl) (k := ?_)
      refine mj_b_iload_n (hE := fe_63_10) (hv := rfl) (k := ?_)
      refine mj_b_callR (hE := fe_63_11) (hi := in_26) (h1 := g26 _ _ _) (hc := mj_cok_s rfl) (ha := rfl) (hr := rfl) ?_
      refine mj_b_if1 (hE := fe_63_14) (kt := fun h14 => ?_) (kf := fun h14 => ?_)
      · simp only [mj_cnd, decide_eq_true_eq, decide_eq_false_iff_not, Bool.not_eq_true', Bool.not_eq_false', pz_0, Bool.not_eq_false, Bool.not_eq_true] at h14
        refine mj_b_iconst (hE := fe_63_21) (k := ?_)
        exact mj_b_retZ (hE := fe_63_22) (hi := in_63) (by first | decide | exact pz_01 _) (by first | (simp [pf_taken, pz, h2, h6, h14]; done) | (simp_all [pf_taken, pz]; done) | rfl)
      · simp only [mj_cnd, decide_eq_true_eq, decide_eq_false_iff_not, Bool.not_eq_true', Bool.not_eq_false', pz_0, Bool.not_eq_false, Bool.not_eq_true] at h14
        refine mj_b_iconst (hE := fe_63_17) (k := ?_)
        refine mj_b_goto (hE := fe_63_18) (k := ?_)
        exact mj_b_retZ (hE := fe_63_22) (hi := in_63) (by first | decide | exact pz_01 _) (by first | (simp [pf_taken, pz, h2, h6, h14]; done) | (simp_all [pf_taken, pz]; done) | rfl)
set_option maxHeartbeats 1000000 in
theorem l100 (M : mj_H) (p q : Int32) : ∀ (n : Nat) (r : Int32) (fd : Bool), r.toInt < 8 ^ n → mj_T pj_P 100 4 [.int p, .int q, .int (pz fd), .int r] [] M (fun s => s = (some (.int (pz (fd || pf_bel n r q))), M)) := by
  intro n
  induction n with
  | zero =>
    intro r fd hr
    have hr0 : r ≤ 0 := i32_npos hr
    refine mj_b_iload_n (hE := fe_100_4) (hv := rfl) (k := ?_)
    refine mj_b_if1 (hE := fe_100_5) (kt := fun h => ?_) (kf := fun h => ?_)
    · refine mj_b_iload_n (hE := fe_100_34) (hv := rfl) (k := ?_)
      exact mj_b_retZ (hE := fe_100_35) (hi := in_100) (pz_01 _) (by simp [pf_bel])
    · simp [mj_cnd, hr0] at h
  | succ n ih =>
    intro r fd hr
    refine mj_b_iload_n (hE := fe_100_4) (hv := rfl) (k := ?_)
    refine mj_b_if1 (hE := fe_100_5) (kt := fun h => ?_) (kf := fun h => ?_)
    · simp only [mj_cnd, decide_eq_true_eq] at h
      refine mj_b_iload_n (hE := fe_100_34) (hv := rfl) (k := ?_)
      exact mj_b_retZ (hE := fe_100_35) (hi := in_100) (pz_01 _) (by simp [pf_bel, h])
    · simp only [mj_cnd, decide_eq_false_iff_not] at h
      refine mj_b_iload_n (hE := fe_100_8) (hv := rfl) (k := ?_)
      refine mj_b_if1 (hE := fe_100_9) (kt := fun g => ?_) (kf := fun g => ?_)
      · simp only [mj_cnd, Bool.not_eq_true', decide_eq_false_iff_not, pz_0, Bool.not_eq_false] at g
        refine mj_b_iconst (hE := fe_100_20) (k := ?_)
        refine mj_b_goto (hE := fe_100_21) (k := ?_)
        refine mj_b_istore_n (hE := fe_100_25) (hx := Nat.le_of_ble_eq_true rfl) (k := ?_)
        refine mj_b_iload_n (hE := fe_100_26) (hv := rfl) (k := ?_)
        refine mj_b_bipush (hE := fe_100_27) (k := ?_)
        refine mj_b_idiv (hE := fe_100_29) (hb := by decide) (k := ?_)
        refine mj_b_istore_n (hE := fe_100_30) (hx := Nat.le_of_ble_eq_true rfl) (k := ?_)
        refine mj_b_goto (hE := fe_100_31) (k := ?_)
        exact (ih (r / 8) true (i32_d8lt h hr)).mono (fun s hs => by rw [hs]; simp [g])
      · simp only [mj_cnd, Bool.not_eq_false', decide_eq_true_eq, pz_0] at g
        refine mj_b_iload_n (hE := fe_100_12) (hv := rfl) (k := ?_)
        refine mj_b_bipush (hE := fe_100_13) (k := ?_)
        refine mj_b_idiv (hE := fe_100_15) (hb := by decide) (k := ?_)
        refine mj_b_iload_n (hE := fe_100_16) (hv := rfl) (k := ?_)
        refine mj_b_if2 (hE := fe_100_17) (kt := fun j => ?_) (kf := fun j => ?_)
        · simp only [mj_cnd, Bool.not_eq_true', decide_eq_false_iff_not] at j
          refine mj_b_iconst (hE := fe_100_24) (k := ?_)
          refine mj_b_istore_n (hE := fe_100_25) (hx := Nat.le_of_ble_eq_true rfl) (k := ?_)
          refine mj_b_iload_n (hE := fe_100_26) (hv := rfl) (k := ?_)
          refine mj_b_bipush (hE := fe_100_27) (k := ?_)
          refine mj_b_idiv (hE := fe_100_29) (hb := by decide) (k := ?_)
          refine mj_b_istore_n (hE := fe_100_30) (hx := Nat.le_of_ble_eq_true rfl) (k := ?_)
          refine mj_b_goto (hE := fe_100_31) (k := ?_)
          exact (ih (r / 8) false (i32_d8lt h hr)).mono (fun s hs => by rw [hs]; simp [pf_bel, g, h, j])
        · simp only [mj_cnd, Bool.not_eq_false', decide_eq_true_eq] at j
          refine mj_b_iconst (hE := fe_100_20) (k := ?_)
          refine mj_b_goto (hE := fe_100_21) (k := ?_)
          refine mj_b_istore_n (hE := fe_100_25) (hx := Nat.le_of_ble_eq_true rfl) (k := ?_)
          refine mj_b_iload_n (hE := fe_100_26) (hv := rfl) (k := ?_)
          refine mj_b_bipush (hE := fe_100_27) (k := ?_)
          refine mj_b_idiv (hE := fe_100_29) (hb := by decide) (k := ?_)
          refine mj_b_istore_n (hE := fe_100_30) (hx := Nat.le_of_ble_eq_true rfl) (k := ?_)
          refine mj_b_goto (hE := fe_100_31) (k := ?_)
          exact (ih (r / 8) true (i32_d8lt h hr)).mono (fun s hs => by rw [hs]; simp [pf_bel, g, h, j])
/-- LockedTreeModel.below -/
theorem g100 (M : mj_H) (p q : Int32) : mj_G pj_P 100 [.int p, .int q] M (fun s => s = (some (.int (pz (pf_below p q))), M)) := by
  refine mj_enter in_100 (L := [.int p, .int q, .retAddr 0, .retAddr 0]) rfl ?_
  refine mj_b_iconst (hE := fe_100_0) (k := ?_)
  refine mj_b_istore_n (hE := fe_100_1) (hx := Nat.le_of_ble_eq_true rfl) (k := ?_)
  refine mj_b_iload_n (hE := fe_100_2) (hv := rfl) (k := ?_)
  refine mj_b_istore_n (hE := fe_100_3) (hx := Nat.le_of_ble_eq_true rfl) (k := ?_)
  exact (l100 M p q 11 p false (i32_lt11 p)).mono (fun s hs => by rw [hs]; simp [pf_below])
/-- LockedTreeModel.within -/
theorem g116 (M : mj_H) (p q : Int32) : mj_G pj_P 116 [.int p, .int q] M (fun s => s = (some (.int (pz (pf_within p q))), M)) := by
  refine mj_enter in_116 (L := [.int p, .int q]) rfl ?_
  refine mj_b_iload_n (hE := fe_116_0) (hv := rfl) (k := ?_)
  refine mj_b_iload_n (hE := fe_116_1) (hv := rfl) (k := ?_)
  refine mj_b_if2 (hE := fe_116_2) (kt := fun h => ?_) (kf := fun h => ?_)
  · simp only [mj_cnd, decide_eq_true_eq] at h
    refine mj_b_iconst (hE := fe_116_13) (k := ?_)
    refine mj_b_goto (hE := fe_116_14) (k := ?_)
    exact mj_b_retZ (hE := fe_116_18) (hi := in_116) (Or.inr rfl) (by simp [pf_within, pz, h])
  · simp only [mj_cnd, decide_eq_false_iff_not] at h
    refine mj_b_iload_n (hE := fe_116_5) (hv := rfl) (k := ?_)
    refine mj_b_iload_n (hE := fe_116_6) (hv := rfl) (k := ?_)
    refine mj_b_callR (hE := fe_116_7) (hi := in_100) (h1 := g100 M p q) (hc := mj_cok_s rfl) (ha := rfl) (hr := rfl) ?_
    refine mj_b_if1 (hE := fe_116_10) (kt := fun g => ?_) (kf := fun g => ?_)
    · simp only [mj_cnd, decide_eq_true_eq, pz_0] at g
      refine mj_b_iconst (hE := fe_116_17) (k := ?_)
      exact mj_b_retZ (hE := fe_116_18) (hi := in_116) (Or.inl rfl) (by simp [pf_within, pz, h, g])
    · simp only [mj_cnd, decide_eq_false_iff_not, pz_0, Bool.not_eq_false] at g
      refine mj_b_iconst (hE := fe_116_13) (k := ?_)
      refine mj_b_goto (hE := fe_116_14) (k := ?_)
      exact mj_b_retZ (hE := fe_116_18) (hi := in_116) (Or.inr rfl) (by simp [pf_within, pz, g])
set_option maxHeartbeats 1000000 in
theorem l92 (M : mj_H) (p : Int32) : ∀ (n : Nat) (r : Int32) (gd : Bool), r.toInt < 8 ^ n → mj_T pj_P 92 17 [.int p, .int (pz gd), .int r] [] M (fun s => s = (some (.int (pz (gd && pf_pth n r))), M)) := by
  intro n
  induction n with
  | zero =>
    intro r gd hr
    have hr0 : r ≤ 0 := i32_npos hr
    refine mj_b_iload_n (hE := fe_92_17) (hv := rfl) (k := ?_)
    refine mj_b_if1 (hE := fe_92_18) (kt := fun h => ?_) (kf := fun h => ?_)
    · refine mj_b_iload_n (hE := fe_92_46) (hv := rfl) (k := ?_)
      exact mj_b_retZ (hE := fe_92_47) (hi := in_92) (pz_01 _) (by simp [pf_pth])
    · simp [mj_cnd, hr0] at h
  | succ n ih =>
    intro r gd hr
    refine mj_b_iload_n (hE := fe_92_17) (hv := rfl) (k := ?_)
    refine mj_b_if1 (hE := fe_92_18) (kt := fun h => ?_) (kf := fun h => ?_)
    · simp only [mj_cnd, decide_eq_true_eq] at h
      refine mj_b_iload_n (hE := fe_92_46) (hv := rfl) (k := ?_)
      exact mj_b_retZ (hE := fe_92_47) (hi := in_92) (pz_01 _) (by simp [pf_pth, h])
    · simp only [mj_cnd, decide_eq_false_iff_not] at h
      refine mj_b_iload_n (hE := fe_92_21) (hv := rfl) (k := ?_)
      refine mj_b_if1 (hE := fe_92_22) (kt := fun g => ?_) (kf := fun g => ?_)
      · simp only [mj_cnd, decide_eq_true_eq, pz_0] at g
        refine mj_b_iconst (hE := fe_92_36) (k := ?_)
        refine mj_b_istore_n (hE := fe_92_37) (hx := Nat.le_of_ble_eq_true rfl) (k := ?_)
        refine mj_b_iload_n (hE := fe_92_38) (hv := rfl) (k := ?_)
        refine mj_b_bipush (hE := fe_92_39) (k := ?_)
        refine mj_b_idiv (hE := fe_92_41) (hb := by decide) (k := ?_)
        refine mj_b_istore_n (hE := fe_92_42) (hx := Nat.le_of_ble_eq_true rfl) (k := ?_)
        refine mj_b_goto (hE := fe_92_43) (k := ?_)
        exact (ih (r / 8) false (i32_d8lt h hr)).mono (fun s hs => by rw [hs]; simp [g])
      · simp only [mj_cnd, decide_eq_false_iff_not, pz_0, Bool.not_eq_false] at g
        refine mj_b_iload_n (hE := fe_92_25) (hv := rfl) (k := ?_)
        refine mj_b_bipush (hE := fe_92_26) (k := ?_)
        refine mj_b_irem (hE := fe_92_28) (hb := by decide) (k := ?_)
        refine mj_b_if1 (hE := fe_92_29) (kt := fun j => ?_) (kf := fun j => ?_)
        · simp only [mj_cnd, decide_eq_true_eq] at j
          refine mj_b_iconst (hE := fe_92_36) (k := ?_)
          refine mj_b_istore_n (hE := fe_92_37) (hx := Nat.le_of_ble_eq_true rfl) (k := ?_)
          refine mj_b_iload_n (hE := fe_92_38) (hv := rfl) (k := ?_)
          refine mj_b_bipush (hE := fe_92_39) (k := ?_)
          refine mj_b_idiv (hE := fe_92_41) (hb := by decide) (k := ?_)
          refine mj_b_istore_n (hE := fe_92_42) (hx := Nat.le_of_ble_eq_true rfl) (k := ?_)
          refine mj_b_goto (hE := fe_92_43) (k := ?_)
          exact (ih (r / 8) false (i32_d8lt h hr)).mono (fun s hs => by rw [hs]; simp [pf_pth, g, h, j])
        · simp only [mj_cnd, decide_eq_false_iff_not] at j
          refine mj_b_iconst (hE := fe_92_32) (k := ?_)
          refine mj_b_goto (hE := fe_92_33) (k := ?_)
          refine mj_b_istore_n (hE := fe_92_37) (hx := Nat.le_of_ble_eq_true rfl) (k := ?_)
          refine mj_b_iload_n (hE := fe_92_38) (hv := rfl) (k := ?_)
          refine mj_b_bipush (hE := fe_92_39) (k := ?_)
          refine mj_b_idiv (hE := fe_92_41) (hb := by decide) (k := ?_)
          refine mj_b_istore_n (hE := fe_92_42) (hx := Nat.le_of_ble_eq_true rfl) (k := ?_)
          refine mj_b_goto (hE := fe_92_43) (k := ?_)
          exact (ih (r / 8) true (i32_d8lt h hr)).mono (fun s hs => by rw [hs]; simp [pf_pth, g, h, j])
/-- LockedTreeModel.isPath -/
theorem g92 (M : mj_H) (p : Int32) : mj_G pj_P 92 [.int p] M (fun s => s = (some (.int (pz (pf_path p))), M)) := by
  refine mj_enter in_92 (L := [.int p, .retAddr 0, .retAddr 0]) rfl ?_
  refine mj_b_iload_n (hE := fe_92_0) (hv := rfl) (k := ?_)
  refine mj_b_if1 (hE := fe_92_1) (kt := fun h => ?_) (kf := fun h => ?_)
  · simp only [mj_cnd, decide_eq_true_eq] at h
    refine mj_b_iconst (hE := fe_92_11) (k := ?_)
    exact mj_b_retZ (hE := fe_92_12) (hi := in_92) (Or.inl rfl) (by simp [pf_path, pz, h])
  · simp only [mj_cnd, decide_eq_false_iff_not] at h
    refine mj_b_iload_n (hE := fe_92_4) (hv := rfl) (k := ?_)
    refine mj_b_sipush (hE := fe_92_5) (k := ?_)
    refine mj_b_if2 (hE := fe_92_8) (kt := fun g => ?_) (kf := fun g => ?_)
    · simp only [mj_cnd, decide_eq_true_eq] at g
      refine mj_b_iconst (hE := fe_92_13) (k := ?_)
      refine mj_b_istore_n (hE := fe_92_14) (hx := Nat.le_of_ble_eq_true rfl) (k := ?_)
      refine mj_b_iload_n (hE := fe_92_15) (hv := rfl) (k := ?_)
      refine mj_b_istore_n (hE := fe_92_16) (hx := Nat.le_of_ble_eq_true rfl) (k := ?_)
      exact (l92 M p 11 p true (i32_lt11 p)).mono (fun s hs => by rw [hs]; simp [pf_path, h, g])
    · simp only [mj_cnd, decide_eq_false_iff_not] at g
      refine mj_b_iconst (hE := fe_92_11) (k := ?_)
      exact mj_b_retZ (hE := fe_92_12) (hi := in_92) (Or.inl rfl) (by simp [pf_path, pz, g])
/-- how many names -/
def pf_nam : Nat → Int32 → Int32
  | 0, _ => 0
  | n + 1, r => if r ≤ 0 then 0 else pf_nam n (r / 8) + 1
set_option maxHeartbeats 1000000 in
theorem l121 (M : mj_H) (p : Int32) : ∀ (n : Nat) (r v : Int32), r.toInt < 8 ^ n → mj_T pj_P 121 4 [.int p, .int v, .int r] [] M (fun s => s = (some (.int (v + pf_nam n r)), M)) := by
  intro n
  induction n with
  | zero =>
    intro r v hr
    have hr0 : r ≤ 0 := i32_npos hr
    refine mj_b_iload_n (hE := fe_121_4) (hv := rfl) (k := ?_)
    refine mj_b_if1 (hE := fe_121_5) (kt := fun h => ?_) (kf := fun h => ?_)
    · refine mj_b_iload_n (hE := fe_121_19) (hv := rfl) (k := ?_)
      exact mj_b_retI (hE := fe_121_20) (hi := in_121) (by simp [pf_nam])
    · simp [mj_cnd, hr0] at h
  | succ n ih =>
    intro r v hr
    refine mj_b_iload_n (hE := fe_121_4) (hv := rfl) (k := ?_)
    refine mj_b_if1 (hE := fe_121_5) (kt := fun h => ?_) (kf := fun h => ?_)
    · simp only [mj_cnd, decide_eq_true_eq] at h
      refine mj_b_iload_n (hE := fe_121_19) (hv := rfl) (k := ?_)
      exact mj_b_retI (hE := fe_121_20) (hi := in_121) (by simp [pf_nam, h])
    · simp only [mj_cnd, decide_eq_false_iff_not] at h
      refine mj_b_iinc (hE := fe_121_8) (hv := rfl) (k := ?_)
      refine mj_b_iload_n (hE := fe_121_11) (hv := rfl) (k := ?_)
      refine mj_b_bipush (hE := fe_121_12) (k := ?_)
      refine mj_b_idiv (hE := fe_121_14) (hb := by decide) (k := ?_)
      refine mj_b_istore_n (hE := fe_121_15) (hx := Nat.le_of_ble_eq_true rfl) (k := ?_)
      refine mj_b_goto (hE := fe_121_16) (k := ?_)
      exact (ih (r / 8) (v + 1) (i32_d8lt h hr)).mono (fun s hs => by rw [hs]; simp [pf_nam, h]; rw [Int32.add_assoc, Int32.add_comm 1])
/-- LockedTreeModel.names -/
theorem g121 (M : mj_H) (p : Int32) : mj_G pj_P 121 [.int p] M (fun s => s = (some (.int (pf_nam 11 p)), M)) := by
  refine mj_enter in_121 (L := [.int p, .retAddr 0, .retAddr 0]) rfl ?_
  refine mj_b_iconst (hE := fe_121_0) (k := ?_)
  refine mj_b_istore_n (hE := fe_121_1) (hx := Nat.le_of_ble_eq_true rfl) (k := ?_)
  refine mj_b_iload_n (hE := fe_121_2) (hv := rfl) (k := ?_)
  refine mj_b_istore_n (hE := fe_121_3) (hx := Nat.le_of_ble_eq_true rfl) (k := ?_)
  exact (l121 M p 11 p 0 (i32_lt11 p)).mono (fun s hs => by rw [hs]; simp)
def pf_dig (c : Int32) : Bool := pf_from c 48 57
/-- Header.isDigit -/
theorem g9 (M : mj_H) (c : Int32) : mj_G pj_P 9 [.int c] M (fun s => s = (some (.int (pz (pf_dig c))), M)) := by
  refine mj_enter in_9 (L := [.int c]) rfl ?_
  refine mj_b_iload_n (hE := fe_9_0) (hv := rfl) (k := ?_)
  refine mj_b_bipush (hE := fe_9_1) (k := ?_)
  refine mj_b_if2 (hE := fe_9_3) (kt := fun h3 => ?_) (kf := fun h3 => ?_)
  · simp only [mj_cnd, decide_eq_true_eq, decide_eq_false_iff_not, Bool.not_eq_true', Bool.not_eq_false', pz_0, Bool.not_eq_false, Bool.not_eq_true] at h3
    refine mj_b_iconst (hE := fe_9_16) (k := ?_)
    exact mj_b_retZ (hE := fe_9_17) (hi := in_9) (by first | decide | exact pz_01 _) (by first | (simp [pf_dig, pf_from, pz, h3]; done) | (simp_all [pf_dig, pf_from, pz]; done) | rfl)
  · simp only [mj_cnd, decide_eq_true_eq, decide_eq_false_iff_not, Bool.not_eq_true', Bool.not_eq_false', pz_0, Bool.not_eq_false, Bool.not_eq_true] at h3
    refine mj_b_iload_n (hE := fe_9_6) (hv := rfl) (k := ?_)
    refine mj_b_bipush (hE := fe_9_7) (k := ?_)
    refine mj_b_if2 (hE := fe_9_9) (kt := fun h9 => ?_) (kf := fun h9 => ?_)
    · simp only [mj_cnd, decide_eq_true_eq, decide_eq_false_iff_not, Bool.not_eq_true', Bool.not_eq_false', pz_0, Bool.not_eq_false, Bool.not_eq_true] at h9
      refine mj_b_iconst (hE := fe_9_16) (k := ?_)
      exact mj_b_retZ (hE := fe_9_17) (hi := in_9) (by first | decide | exact pz_01 _) (by first | (simp [pf_dig, pf_from, pz, h3, h9]; done) | (simp_all [pf_dig, pf_from, pz]; done) | rfl)
    · simp only [mj_cnd, decide_eq_true_eq, decide_eq_false_iff_not, Bool.not_eq_true', Bool.not_eq_false', pz_0, Bool.not_eq_false, Bool.not_eq_true] at h9
      refine mj_b_iconst (hE := fe_9_12) (k := ?_)
      refine mj_b_goto (hE := fe_9_13) (k := ?_)
      exact mj_b_retZ (hE := fe_9_17) (hi := in_9) (by first | decide | exact pz_01 _) (by first | (simp [pf_dig, pf_from, pz, h3, h9]; done) | (simp_all [pf_dig, pf_from, pz]; done) | rfl)
def pf_named (c : Int32) : Bool := pf_dig c || decide (c = 40) || decide (c = 41) || decide (c = 47) || decide (c = 116) || decide (c = 101) || decide (c = 33)
/-- Header.isNamed -/
theorem g8 (M : mj_H) (c : Int32) : mj_G pj_P 8 [.int c] M (fun s => s = (some (.int (pz (pf_named c))), M)) := by
  refine mj_enter in_8 (L := [.int c]) rfl ?_
  refine mj_b_iload_n (hE := fe_8_0) (hv := rfl) (k := ?_)
  refine mj_b_callR (hE := fe_8_1) (hi := in_9) (h1 := g9 _ _) (hc := mj_cok_s rfl) (ha := rfl) (hr := rfl) ?_
  refine mj_b_if1 (hE := fe_8_4) (kt := fun h4 => ?_) (kf := fun h4 => ?_)
  · simp only [mj_cnd, decide_eq_true_eq, decide_eq_false_iff_not, Bool.not_eq_true', Bool.not_eq_false', pz_0, Bool.not_eq_false, Bool.not_eq_true] at h4
    refine mj_b_iconst (hE := fe_8_43) (k := ?_)
    refine mj_b_goto (hE := fe_8_44) (k := ?_)
    exact mj_b_retZ (hE := fe_8_48) (hi := in_8) (by first | decide | exact pz_01 _) (by first | (simp [pf_named, pz, h4]; done) | (simp_all [pf_named, pz]; done) | rfl)
  · simp only [mj_cnd, decide_eq_true_eq, decide_eq_false_iff_not, Bool.not_eq_true', Bool.not_eq_false', pz_0, Bool.not_eq_false, Bool.not_eq_true] at h4
    refine mj_b_iload_n (hE := fe_8_7) (hv := rfl) (k := ?_)
    refine mj_b_bipush (hE := fe_8_8) (k := ?_)
    refine mj_b_if2 (hE := fe_8_10) (kt := fun h10 => ?_) (kf := fun h10 => ?_)
    · simp only [mj_cnd, decide_eq_true_eq, decide_eq_false_iff_not, Bool.not_eq_true', Bool.not_eq_false', pz_0, Bool.not_eq_false, Bool.not_eq_true] at h10
      refine mj_b_iconst (hE := fe_8_43) (k := ?_)
      refine mj_b_goto (hE := fe_8_44) (k := ?_)
      exact mj_b_retZ (hE := fe_8_48) (hi := in_8) (by first | decide | exact pz_01 _) (by first | (simp [pf_named, pz, h4, h10]; done) | (simp_all [pf_named, pz]; done) | rfl)
    · simp only [mj_cnd, decide_eq_true_eq, decide_eq_false_iff_not, Bool.not_eq_true', Bool.not_eq_false', pz_0, Bool.not_eq_false, Bool.not_eq_true] at h10
      refine mj_b_iload_n (hE := fe_8_13) (hv := rfl) (k := ?_)
      refine mj_b_bipush (hE := fe_8_14) (k := ?_)
      refine mj_b_if2 (hE := fe_8_16) (kt := fun h16 => ?_) (kf := fun h16 => ?_)
      · simp only [mj_cnd, decide_eq_true_eq, decide_eq_false_iff_not, Bool.not_eq_true', Bool.not_eq_false', pz_0, Bool.not_eq_false, Bool.not_eq_true] at h16
        refine mj_b_iconst (hE := fe_8_43) (k := ?_)
        refine mj_b_goto (hE := fe_8_44) (k := ?_)
        exact mj_b_retZ (hE := fe_8_48) (hi := in_8) (by first | decide | exact pz_01 _) (by first | (simp [pf_named, pz, h4, h10, h16]; done) | (simp_all [pf_named, pz]; done) | rfl)
      · simp only [mj_cnd, decide_eq_true_eq, decide_eq_false_iff_not, Bool.not_eq_true', Bool.not_eq_false', pz_0, Bool.not_eq_false, Bool.not_eq_true] at h16
        refine mj_b_iload_n (hE := fe_8_19) (hv := rfl) (k := ?_)
        refine mj_b_bipush (hE := fe_8_20) (k := ?_)
        refine mj_b_if2 (hE := fe_8_22) (kt := fun h22 => ?_) (kf := fun h22 => ?_)
        · simp only [mj_cnd, decide_eq_true_eq, decide_eq_false_iff_not, Bool.not_eq_true', Bool.not_eq_false', pz_0, Bool.not_eq_false, Bool.not_eq_true] at h22
          refine mj_b_iconst (hE := fe_8_43) (k := ?_)
          refine mj_b_goto (hE := fe_8_44) (k := ?_)
          exact mj_b_retZ (hE := fe_8_48) (hi := in_8) (by first | decide | exact pz_01 _) (by first | (simp [pf_named, pz, h4, h10, h16, h22]; done) | (simp_all [pf_named, pz]; done) | rfl)
        · simp only [mj_cnd, decide_eq_true_eq, decide_eq_false_iff_not, Bool.not_eq_true', Bool.not_eq_false', pz_0, Bool.not_eq_false, Bool.not_eq_true] at h22
          refine mj_b_iload_n (hE := fe_8_25) (hv := rfl) (k := ?_)
          refine mj_b_bipush (hE := fe_8_26) (k := ?_)
          refine mj_b_if2 (hE := fe_8_28) (kt := fun h28 => ?_) (kf := fun h28 => ?_)
          · simp only [mj_cnd, decide_eq_true_eq, decide_eq_false_iff_not, Bool.not_eq_true', Bool.not_eq_false', pz_0, Bool.not_eq_false, Bool.not_eq_true] at h28
            refine mj_b_iconst (hE := fe_8_43) (k := ?_)
            refine mj_b_goto (hE := fe_8_44) (k := ?_)
            exact mj_b_retZ (hE := fe_8_48) (hi := in_8) (by first | decide | exact pz_01 _) (by first | (simp [pf_named, pz, h4, h10, h16, h22, h28]; done) | (simp_all [pf_named, pz]; done) | rfl)
          · simp only [mj_cnd, decide_eq_true_eq, decide_eq_false_iff_not, Bool.not_eq_true', Bool.not_eq_false', pz_0, Bool.not_eq_false, Bool.not_eq_true] at h28
            refine mj_b_iload_n (hE := fe_8_31) (hv := rfl) (k := ?_)
            refine mj_b_bipush (hE := fe_8_32) (k := ?_)
            refine mj_b_if2 (hE := fe_8_34) (kt := fun h34 => ?_) (kf := fun h34 => ?_)
            · simp only [mj_cnd, decide_eq_true_eq, decide_eq_false_iff_not, Bool.not_eq_true', Bool.not_eq_false', pz_0, Bool.not_eq_false, Bool.not_eq_true] at h34
              refine mj_b_iconst (hE := fe_8_43) (k := ?_)
              refine mj_b_goto (hE := fe_8_44) (k := ?_)
              exact mj_b_retZ (hE := fe_8_48) (hi := in_8) (by first | decide | exact pz_01 _) (by first | (simp [pf_named, pz, h4, h10, h16, h22, h28, h34]; done) | (simp_all [pf_named, pz]; done) | rfl)
            · simp only [mj_cnd, decide_eq_true_eq, decide_eq_false_iff_not, Bool.not_eq_true', Bool.not_eq_false', pz_0, Bool.not_eq_false, Bool.not_eq_true] at h34
              refine mj_b_iload_n (hE := fe_8_37) (hv := rfl) (k := ?_)
              refine mj_b_bipush (hE := fe_8_38) (k := ?_)
              refine mj_b_if2 (hE := fe_8_40) (kt := fun h40 => ?_) (kf := fun h40 => ?_)
              · simp only [mj_cnd, decide_eq_true_eq, decide_eq_false_iff_not, Bool.not_eq_true', Bool.not_eq_false', pz_0, Bool.not_eq_false, Bool.not_eq_true] at h40
                refine mj_b_iconst (hE := fe_8_47) (k := ?_)
                exact mj_b_retZ (hE := fe_8_48) (hi := in_8) (by first | decide | exact pz_01 _) (by first | (simp [pf_named, pz, h4, h10, h16, h22, h28, h34, h40]; done) | (simp_all [pf_named, pz]; done) | rfl)
              · simp only [mj_cnd, decide_eq_true_eq, decide_eq_false_iff_not, Bool.not_eq_true', Bool.not_eq_false', pz_0, Bool.not_eq_false, Bool.not_eq_true] at h40
                refine mj_b_iconst (hE := fe_8_43) (k := ?_)
                refine mj_b_goto (hE := fe_8_44) (k := ?_)
                exact mj_b_retZ (hE := fe_8_48) (hi := in_8) (by first | decide | exact pz_01 _) (by first | (simp [pf_named, pz, h4, h10, h16, h22, h28, h34, h40]; done) | (simp_all [pf_named, pz]; done) | rfl)
/-- Paths.answering: the loop, with the span and the names so far -/
def pf_ans : Nat → Int32 → Int32 → Int32 → Int32 → Int32 × Int32
  | 0, _, _, span, names => (span, names)
  | n + 1, r, q, span, names => if r ≤ 0 then (span, names) else if r = q then (span, names) else pf_ans n (r / 8) q (span * 8) (names + (r - r / 8 * 8) * span)
def pf_answering (p q to : Int32) : Int32 := to * (pf_ans 11 p q 1 0).1 + (pf_ans 11 p q 1 0).2
set_option maxHeartbeats 1000000 in
theorem l64 (M : mj_H) (p q to : Int32) : ∀ (n : Nat) (r span names : Int32), r.toInt < 8 ^ n → mj_T pj_P 64 8 [.int p, .int q, .int to, .int names, .int span, .int r] [] M (fun s => s = (some (.int (to * (pf_ans n r q span names).1 + (pf_ans n r q span names).2)), M)) := by
  intro n
  induction n with
  | zero =>
    intro r span names hr
    have hr0 : r ≤ 0 := i32_npos hr
    refine mj_b_iload (hE := fe_64_8) (hv := rfl) (k := ?_)
    refine mj_b_if1 (hE := fe_64_10) (kt := fun h => ?_) (kf := fun h => ?_)
    · refine mj_b_iload_n (hE := fe_64_47) (hv := rfl) (k := ?_)
      refine mj_b_iload (hE := fe_64_48) (hv := rfl) (k := ?_)
      refine mj_b_imul (hE := fe_64_50) (k := ?_)
      refine mj_b_iload_n (hE := fe_64_51) (hv := rfl) (k := ?_)
      refine mj_b_iadd (hE := fe_64_52) (k := ?_)
      exact mj_b_retI (hE := fe_64_53) (hi := in_64) (by simp [pf_ans])
    · simp [mj_cnd, hr0] at h
  | succ n ih =>
    intro r span names hr
    refine mj_b_iload (hE := fe_64_8) (hv := rfl) (k := ?_)
    refine mj_b_if1 (hE := fe_64_10) (kt := fun h10 => ?_) (kf := fun h10 => ?_)
    · simp only [mj_cnd, decide_eq_true_eq, decide_eq_false_iff_not, Bool.not_eq_true', Bool.not_eq_false', pz_0, Bool.not_eq_false, Bool.not_eq_true] at h10
      refine mj_b_iload_n (hE := fe_64_47) (hv := rfl) (k := ?_)
      refine mj_b_iload (hE := fe_64_48) (hv := rfl) (k := ?_)
      refine mj_b_imul (hE := fe_64_50) (k := ?_)
      refine mj_b_iload_n (hE := fe_64_51) (hv := rfl) (k := ?_)
      refine mj_b_iadd (hE := fe_64_52) (k := ?_)
      exact mj_b_retI (hE := fe_64_53) (hi := in_64) (by first | (simp [pf_ans, pz, h10]; done) | (simp_all [pf_ans, pz]; done) | rfl)
    · simp only [mj_cnd, decide_eq_true_eq, decide_eq_false_iff_not, Bool.not_eq_true', Bool.not_eq_false', pz_0, Bool.not_eq_false, Bool.not_eq_true] at h10
      refine mj_b_iload (hE := fe_64_13) (hv := rfl) (k := ?_)
      refine mj_b_iload_n (hE := fe_64_15) (hv := rfl) (k := ?_)
      refine mj_b_if2 (hE := fe_64_16) (kt := fun h16 => ?_) (kf := fun h16 => ?_)
      · simp only [mj_cnd, decide_eq_true_eq, decide_eq_false_iff_not, Bool.not_eq_true', Bool.not_eq_false', pz_0, Bool.not_eq_false, Bool.not_eq_true] at h16
        refine mj_b_iload_n (hE := fe_64_47) (hv := rfl) (k := ?_)
        refine mj_b_iload (hE := fe_64_48) (hv := rfl) (k := ?_)
        refine mj_b_imul (hE := fe_64_50) (k := ?_)
        refine mj_b_iload_n (hE := fe_64_51) (hv := rfl) (k := ?_)
        refine mj_b_iadd (hE := fe_64_52) (k := ?_)
        exact mj_b_retI (hE := fe_64_53) (hi := in_64) (by first | (simp [pf_ans, pz, h10, h16]; done) | (simp_all [pf_ans, pz]; done) | rfl)
      · simp only [mj_cnd, decide_eq_true_eq, decide_eq_false_iff_not, Bool.not_eq_true', Bool.not_eq_false', pz_0, Bool.not_eq_false, Bool.not_eq_true] at h16
        refine mj_b_iload_n (hE := fe_64_19) (hv := rfl) (k := ?_)
        refine mj_b_iload (hE := fe_64_20) (hv := rfl) (k := ?_)
        refine mj_b_bipush (hE := fe_64_22) (k := ?_)
        refine mj_b_irem (hE := fe_64_24) (hb := by decide) (k := ?_)
        refine mj_b_iload (hE := fe_64_25) (hv := rfl) (k := ?_)
        refine mj_b_imul (hE := fe_64_27) (k := ?_)
        refine mj_b_iadd (hE := fe_64_28) (k := ?_)
        refine mj_b_istore_n (hE := fe_64_29) (hx := Nat.le_of_ble_eq_true rfl) (k := ?_)
        refine mj_b_iload (hE := fe_64_30) (hv := rfl) (k := ?_)
        refine mj_b_bipush (hE := fe_64_32) (k := ?_)
        refine mj_b_imul (hE := fe_64_34) (k := ?_)
        refine mj_b_istore (hE := fe_64_35) (hx := Nat.le_of_ble_eq_true rfl) (k := ?_)
        refine mj_b_iload (hE := fe_64_37) (hv := rfl) (k := ?_)
        refine mj_b_bipush (hE := fe_64_39) (k := ?_)
        refine mj_b_idiv (hE := fe_64_41) (hb := by decide) (k := ?_)
        refine mj_b_istore (hE := fe_64_42) (hx := Nat.le_of_ble_eq_true rfl) (k := ?_)
        refine mj_b_goto (hE := fe_64_44) (k := ?_)
        exact (ih _ _ _ (i32_d8lt h10 hr)).mono (fun s hs => by rw [hs]; simp [pf_ans, h10, h16])
/-- Paths.answering -/
theorem g64 (M : mj_H) (p q to : Int32) : mj_G pj_P 64 [.int p, .int q, .int to] M (fun s => s = (some (.int (pf_answering p q to)), M)) := by
  refine mj_enter in_64 (L := [.int p, .int q, .int to, .retAddr 0, .retAddr 0, .retAddr 0]) rfl ?_
  refine mj_b_iconst (hE := fe_64_0) (k := ?_)
  refine mj_b_istore_n (hE := fe_64_1) (hx := Nat.le_of_ble_eq_true rfl) (k := ?_)
  refine mj_b_iconst (hE := fe_64_2) (k := ?_)
  refine mj_b_istore (hE := fe_64_3) (hx := Nat.le_of_ble_eq_true rfl) (k := ?_)
  refine mj_b_iload_n (hE := fe_64_5) (hv := rfl) (k := ?_)
  refine mj_b_istore (hE := fe_64_6) (hx := Nat.le_of_ble_eq_true rfl) (k := ?_)
  exact l64 M p q to 11 p 1 0 (i32_lt11 p)
