/-! ===== the class: small writes ===== -/
section CW
variable {P : mj_P} {f pc nx x y w : Nat} {L st rest as : List Value} {M M' : mj_H} {Q : Option Value × mj_H → Prop} {z : Int32} {tb : List (Int × Nat)} {i : Instr} {g k mL rk rc : Nat}
/-- a call of a method that answers a value and leaves the heap M' -/
theorem mj_b_callW {v : Value} (hE : P.1 f pc = some (i, nx, g, y, 7, z, tb)) (hi : P.2 g = (k, mL, rk, rc)) (h1 : mj_G P g as M (fun r => r = (some v, M'))) (hc : mj_cok k rc st M = true) (ha : (st.take k).reverse = as) (hr : st.drop k = rest)
    (kk : mj_T P f nx L (v :: rest) M' Q) : mj_T P f pc L st M Q := mj_b_call hE hi h1 hc ha hr (fun v' M1 hq => by cases hq; exact kk)
/-- a call of a method that answers nothing and leaves the heap M' -/
theorem mj_b_callN (hE : P.1 f pc = some (i, nx, g, y, 7, z, tb)) (hi : P.2 g = (k, mL, rk, rc)) (h1 : mj_G P g as M (fun r => r = (none, M'))) (hc : mj_cok k rc st M = true) (ha : (st.take k).reverse = as) (hr : st.drop k = rest)
    (kk : mj_T P f nx L rest M' Q) : mj_T P f pc L st M Q := mj_b_call hE hi h1 hc ha hr (fun v' M1 hq => by cases hq; exact kk)
theorem mj_b_ialdC {i : Int32} {a n t c : Nat} (hE : P.1 f pc = some (.iaload, nx, x, y, 0, z, tb)) (hM : M.1[a]? = some (t, n)) (ht : t = 64 ∨ t = 65) (hi : mj_ix i n = true) (hc : i.toNatClampNeg = c) (k : mj_T P f nx L (.int (M.2.1 a c) :: st) M Q) : mj_T P f pc L (.int i :: .ref a :: st) M Q := by
  subst hc
  exact mj_b_iald hE (by decide) (by decide) hM ht hi k
theorem mj_b_iastC {i v : Int32} {a n c : Nat} (hE : P.1 f pc = some (.iastore, nx, x, y, 0, z, tb)) (hM : M.1[a]? = some (65, n)) (hi : mj_ix i n = true) (hc : i.toNatClampNeg = c) (k : mj_T P f nx L st (M.1, mj_u M.2.1 a c v, M.2.2) Q) : mj_T P f pc L (.int v :: .int i :: .ref a :: st) M Q := by
  subst hc
  exact mj_b_iast hE (by decide) (by decide) hM hi k
end CW
theorem mj_u_self {α : Type} (f : Nat → Nat → α) (a j : Nat) (v : α) : mj_u f a j v a j = v := by simp [mj_u]
theorem mj_u_na {α : Type} (f : Nat → Nat → α) {a b : Nat} (j k : Nat) (v : α) (h : b ≠ a) : mj_u f a j v b k = f b k := by simp [mj_u, h]
theorem mj_u_nj {α : Type} (f : Nat → Nat → α) (a b : Nat) {j k : Nat} (v : α) (h : k ≠ j) : mj_u f a j v b k = f b k := by simp [mj_u, h]
section SW
variable {L b sn sx nr nl nc : Nat} {pi : Nat → Nat} {ex dp al ng : Nat → Bool} {I : Nat → Nat → Int32} {R : Nat → Nat → Option Nat}
def ch_clr (I : Nat → Nat → Int32) : Nat → Nat → Int32 := mj_u (mj_u (mj_u (mj_u (mj_u I 72 1 0) 72 2 0) 72 3 0) 72 4 0) 72 5 (-1)
/-- Header.clear -/
theorem g38 : mj_G pj_P 38 [.ref 72] (mz_SH L, I, R) (fun r => r = (none, (mz_SH L, ch_clr I, R))) := by
  have hH := sh_72 L
  refine mj_enter in_38 (L := [.ref 72]) rfl ?_
  refine mj_b_rload_n (hE := fe_38_0) (hv := rfl) (k := ?_)
  refine mj_b_iconst (hE := fe_38_1) (k := ?_)
  refine mj_b_putI (hE := fe_38_2) (hw := Or.inl rfl) (hM := by assumption) (k := ?_)
  refine mj_b_rload_n (hE := fe_38_5) (hv := rfl) (k := ?_)
  refine mj_b_iconst (hE := fe_38_6) (k := ?_)
  refine mj_b_putI (hE := fe_38_7) (hw := Or.inl rfl) (hM := by assumption) (k := ?_)
  refine mj_b_rload_n (hE := fe_38_10) (hv := rfl) (k := ?_)
  refine mj_b_iconst (hE := fe_38_11) (k := ?_)
  refine mj_b_putI (hE := fe_38_12) (hw := Or.inl rfl) (hM := by assumption) (k := ?_)
  refine mj_b_rload_n (hE := fe_38_15) (hv := rfl) (k := ?_)
  refine mj_b_iconst (hE := fe_38_16) (k := ?_)
  refine mj_b_putI (hE := fe_38_17) (hw := Or.inl rfl) (hM := by assumption) (k := ?_)
  refine mj_b_rload_n (hE := fe_38_20) (hv := rfl) (k := ?_)
  refine mj_b_iconst (hE := fe_38_21) (k := ?_)
  refine mj_b_putI (hE := fe_38_22) (hw := Or.inl rfl) (hM := by assumption) (k := ?_)
  exact mj_b_retV (hE := fe_38_25) (hi := in_38) rfl
def c_cls (I : Nat → Nat → Int32) (a : Int32) : Nat → Nat → Int32 := if a = 207 then mj_u (ch_clr I) 1 3 (-1) else mj_u (mj_u (ch_clr I) 1 3 (-1)) 1 6 0
/-- LockedTree.closeRequest -/
theorem g37 (a : Int32) (ht : c_top sn sx R) : mj_G pj_P 37 [.ref 1, .int a] (mz_SH L, I, R) (fun r => r = (some (.int a), (mz_SH L, c_cls I a, R))) := by
  have h1 := sh_1 L
  have ht3 := ht.2.2.1
  refine mj_enter in_37 (L := [.ref 1, .int a]) rfl ?_
  refine mj_b_rload_n (hE := fe_37_0) (hv := rfl) (k := ?_)
  refine mj_b_getQ (hE := fe_37_1) (hM := by assumption) (hv := by assumption) (k := ?_)
  refine mj_b_callN (hE := fe_37_4) (hi := in_38) (h1 := g38) (hc := mj_cok_v rfl rfl (sh_72 L)) (ha := rfl) (hr := rfl) ?_
  refine mj_b_rload_n (hE := fe_37_7) (hv := rfl) (k := ?_)
  refine mj_b_iconst (hE := fe_37_8) (k := ?_)
  refine mj_b_putI (hE := fe_37_9) (hw := Or.inl rfl) (hM := by assumption) (k := ?_)
  refine mj_b_iload_n (hE := fe_37_12) (hv := rfl) (k := ?_)
  refine mj_b_sipush (hE := fe_37_13) (k := ?_)
  refine mj_b_if2 (hE := fe_37_16) (kt := fun h => ?_) (kf := fun h => ?_)
  · simp only [mj_cnd, decide_eq_true_eq] at h
    refine mj_b_iload_n (hE := fe_37_24) (hv := rfl) (k := ?_)
    exact mj_b_retI (hE := fe_37_25) (hi := in_37) (by simp [c_cls, h])
  · simp only [mj_cnd, decide_eq_false_iff_not] at h
    refine mj_b_rload_n (hE := fe_37_19) (hv := rfl) (k := ?_)
    refine mj_b_iconst (hE := fe_37_20) (k := ?_)
    refine mj_b_putI (hE := fe_37_21) (hw := Or.inl rfl) (hM := by assumption) (k := ?_)
    refine mj_b_iload_n (hE := fe_37_24) (hv := rfl) (k := ?_)
    exact mj_b_retI (hE := fe_37_25) (hi := in_37) (by simp [c_cls, h])
def c_fal (n : Int32) : Bool := decide (n = -1) || pf_from n 0 100
/-- LockedTree.fail -/
theorem g16 (n : Int32) : mj_G pj_P 16 [.ref 1, .int n] (mz_SH L, I, R) (fun r => r = (some (.int (pz (c_fal n))), (mz_SH L, if c_fal n = true then mj_u I 1 3 n else I, R))) := by
  have h1 := sh_1 L
  refine mj_enter in_16 (L := [.ref 1, .int n]) rfl ?_
  refine mj_b_iload_n (hE := fe_16_0) (hv := rfl) (k := ?_)
  refine mj_b_iconst (hE := fe_16_1) (k := ?_)
  refine mj_b_if2 (hE := fe_16_2) (kt := fun h2 => ?_) (kf := fun h2 => ?_)
  · simp only [mj_cnd, decide_eq_true_eq, decide_eq_false_iff_not, Bool.not_eq_true', Bool.not_eq_false', pz_0, Bool.not_eq_false, Bool.not_eq_true] at h2
    refine mj_b_rload_n (hE := fe_16_17) (hv := rfl) (k := ?_)
    refine mj_b_iload_n (hE := fe_16_18) (hv := rfl) (k := ?_)
    refine mj_b_putI (hE := fe_16_19) (hw := Or.inl rfl) (hM := by assumption) (k := ?_)
    refine mj_b_iconst (hE := fe_16_22) (k := ?_)
    exact mj_b_retZ (hE := fe_16_23) (hi := in_16) (by first | decide | exact pz_01 _) (by first | (simp [c_fal, pz, h2]; done) | (simp_all [c_fal, pz]; done) | rfl)
  · simp only [mj_cnd, decide_eq_true_eq, decide_eq_false_iff_not, Bool.not_eq_true', Bool.not_eq_false', pz_0, Bool.not_eq_false, Bool.not_eq_true] at h2
    refine mj_b_iload_n (hE := fe_16_5) (hv := rfl) (k := ?_)
    refine mj_b_iconst (hE := fe_16_6) (k := ?_)
    refine mj_b_bipush (hE := fe_16_7) (k := ?_)
    refine mj_b_callR (hE := fe_16_9) (hi := in_17) (h1 := g17 _ _ _ _) (hc := mj_cok_s rfl) (ha := rfl) (hr := rfl) ?_
    refine mj_b_if1 (hE := fe_16_12) (kt := fun h12 => ?_) (kf := fun h12 => ?_)
    · simp only [mj_cnd, decide_eq_true_eq, decide_eq_false_iff_not, Bool.not_eq_true', Bool.not_eq_false', pz_0, Bool.not_eq_false, Bool.not_eq_true] at h12
      refine mj_b_rload_n (hE := fe_16_17) (hv := rfl) (k := ?_)
      refine mj_b_iload_n (hE := fe_16_18) (hv := rfl) (k := ?_)
      refine mj_b_putI (hE := fe_16_19) (hw := Or.inl rfl) (hM := by assumption) (k := ?_)
      refine mj_b_iconst (hE := fe_16_22) (k := ?_)
      exact mj_b_retZ (hE := fe_16_23) (hi := in_16) (by first | decide | exact pz_01 _) (by first | (simp [c_fal, pz, h2, h12]; done) | (simp_all [c_fal, pz]; done) | rfl)
    · simp only [mj_cnd, decide_eq_true_eq, decide_eq_false_iff_not, Bool.not_eq_true', Bool.not_eq_false', pz_0, Bool.not_eq_false, Bool.not_eq_true] at h12
      refine mj_b_iconst (hE := fe_16_15) (k := ?_)
      exact mj_b_retZ (hE := fe_16_16) (hi := in_16) (by first | decide | exact pz_01 _) (by first | (simp [c_fal, pz, h2, h12]; done) | (simp_all [c_fal, pz]; done) | rfl)
/-- Store.takeStamp -/
theorem g44 (hb : b = 2 ∨ b = 37) : mj_G pj_P 44 [.ref b] (mz_SH L, I, R) (fun r => r = (some (.int (I b 5)), (mz_SH L, mj_u I b 5 (I b 5 + 1), R))) := by
  have hS := sh_S L hb
  refine mj_enter in_44 (L := [.ref b]) rfl ?_
  refine mj_b_rload_n (hE := fe_44_0) (hv := rfl) (k := ?_)
  refine mj_b_dup (hE := fe_44_1) (hv := rfl) (k := ?_)
  refine mj_b_getV (hE := fe_44_2) (hM := hS) (hv := rfl) (k := ?_)
  refine mj_b_iconst (hE := fe_44_5) (k := ?_)
  refine mj_b_iadd (hE := fe_44_6) (k := ?_)
  refine mj_b_putI (hE := fe_44_7) (hw := Or.inl rfl) (hM := by assumption) (k := ?_)
  refine mj_b_rload_n (hE := fe_44_10) (hv := rfl) (k := ?_)
  refine mj_b_getV (hE := fe_44_11) (hM := hS) (hv := mj_u_self _ _ _ _) (k := ?_)
  refine mj_b_iconst (hE := fe_44_14) (k := ?_)
  refine mj_b_isub (hE := fe_44_15) (k := ?_)
  exact mj_b_retI (hE := fe_44_16) (hi := in_44) (by rw [Int32.add_sub_cancel])
/-- a new row -/
def cr_new (I : Nat → Nat → Int32) (a : Nat) (p k : Int32) : Nat → Nat → Int32 := mj_u (mj_u (mj_u (mj_u (mj_u (mj_u (mj_u I a 0 p) a 1 k) a 2 0) a 3 0) (a + 1) 0 0) (a + 1) 1 0) (a + 1) 2 0
set_option maxHeartbeats 1000000 in
/-- Resource.makeNew -/
theorem g43 {a : Nat} (p k : Int32) (hM : (mz_SH L)[a]? = some (2, 5)) (hP : (mz_SH L)[a + 1]? = some (65, 3)) (hR : R a 4 = some (a + 1)) :
    mj_G pj_P 43 [.ref a, .int p, .int k] (mz_SH L, I, R) (fun r => r = (none, (mz_SH L, cr_new I a p k, R))) := by
  refine mj_enter in_43 (L := [.ref a, .int p, .int k, .retAddr 0]) rfl ?_
  refine mj_b_rload_n (hE := fe_43_0) (hv := rfl) (k := ?_)
  refine mj_b_iload_n (hE := fe_43_1) (hv := rfl) (k := ?_)
  refine mj_b_putI (hE := fe_43_2) (hw := Or.inl rfl) (hM := by assumption) (k := ?_)
  refine mj_b_rload_n (hE := fe_43_5) (hv := rfl) (k := ?_)
  refine mj_b_iload_n (hE := fe_43_6) (hv := rfl) (k := ?_)
  refine mj_b_putI (hE := fe_43_7) (hw := Or.inl rfl) (hM := by assumption) (k := ?_)
  refine mj_b_rload_n (hE := fe_43_10) (hv := rfl) (k := ?_)
  refine mj_b_iconst (hE := fe_43_11) (k := ?_)
  refine mj_b_putI (hE := fe_43_12) (hw := Or.inl rfl) (hM := by assumption) (k := ?_)
  refine mj_b_rload_n (hE := fe_43_15) (hv := rfl) (k := ?_)
  refine mj_b_iconst (hE := fe_43_16) (k := ?_)
  refine mj_b_putI (hE := fe_43_17) (hw := Or.inl rfl) (hM := by assumption) (k := ?_)
  refine mj_b_iconst (hE := fe_43_20) (k := ?_)
  refine mj_b_istore_n (hE := fe_43_21) (hx := Nat.le_of_ble_eq_true rfl) (k := ?_)
  refine mj_b_iload_n (hE := fe_43_22) (hv := rfl) (k := ?_)
  refine mj_b_iconst (hE := fe_43_23) (k := ?_)
  refine mj_b_if2 (hE := fe_43_24) (kt := fun h => absurd h (by decide +kernel)) (kf := fun _ => ?_)
  refine mj_b_rload_n (hE := fe_43_27) (hv := rfl) (k := ?_)
  refine mj_b_getQ (hE := fe_43_28) (hM := by assumption) (hv := by assumption) (k := ?_)
  refine mj_b_iload_n (hE := fe_43_31) (hv := rfl) (k := ?_)
  refine mj_b_iconst (hE := fe_43_32) (k := ?_)
  refine mj_b_iastC (hE := fe_43_33) (c := 0) (hM := by assumption) (hi := by decide +kernel) (hc := by decide +kernel) (k := ?_)
  refine mj_b_iinc (hE := fe_43_34) (hv := rfl) (k := ?_)
  refine mj_b_goto (hE := fe_43_37) (k := ?_)
  refine mj_b_iload_n (hE := fe_43_22) (hv := rfl) (k := ?_)
  refine mj_b_iconst (hE := fe_43_23) (k := ?_)
  refine mj_b_if2 (hE := fe_43_24) (kt := fun h => absurd h (by decide +kernel)) (kf := fun _ => ?_)
  refine mj_b_rload_n (hE := fe_43_27) (hv := rfl) (k := ?_)
  refine mj_b_getQ (hE := fe_43_28) (hM := by assumption) (hv := by assumption) (k := ?_)
  refine mj_b_iload_n (hE := fe_43_31) (hv := rfl) (k := ?_)
  refine mj_b_iconst (hE := fe_43_32) (k := ?_)
  refine mj_b_iastC (hE := fe_43_33) (c := 1) (hM := by assumption) (hi := by decide +kernel) (hc := by decide +kernel) (k := ?_)
  refine mj_b_iinc (hE := fe_43_34) (hv := rfl) (k := ?_)
  refine mj_b_goto (hE := fe_43_37) (k := ?_)
  refine mj_b_iload_n (hE := fe_43_22) (hv := rfl) (k := ?_)
  refine mj_b_iconst (hE := fe_43_23) (k := ?_)
  refine mj_b_if2 (hE := fe_43_24) (kt := fun h => absurd h (by decide +kernel)) (kf := fun _ => ?_)
  refine mj_b_rload_n (hE := fe_43_27) (hv := rfl) (k := ?_)
  refine mj_b_getQ (hE := fe_43_28) (hM := by assumption) (hv := by assumption) (k := ?_)
  refine mj_b_iload_n (hE := fe_43_31) (hv := rfl) (k := ?_)
  refine mj_b_iconst (hE := fe_43_32) (k := ?_)
  refine mj_b_iastC (hE := fe_43_33) (c := 2) (hM := by assumption) (hi := by decide +kernel) (hc := by decide +kernel) (k := ?_)
  refine mj_b_iinc (hE := fe_43_34) (hv := rfl) (k := ?_)
  refine mj_b_goto (hE := fe_43_37) (k := ?_)
  refine mj_b_iload_n (hE := fe_43_22) (hv := rfl) (k := ?_)
  refine mj_b_iconst (hE := fe_43_23) (k := ?_)
  refine mj_b_if2 (hE := fe_43_24) (kt := fun _ => ?_) (kf := fun h => absurd h (by decide +kernel))
  exact mj_b_retV (hE := fe_43_40) (hi := in_43) (by first | (simp [cr_new, pz]; done) | (simp_all [cr_new, pz]; done) | rfl)
/-- two rows are alike -/
def cr_lik (I : Nat → Nat → Int32) (a o : Nat) : Bool := decide (I a 1 = I o 1) && (decide (I a 2 = I o 2) && (decide (I a 3 = I o 3) && (decide (I (a + 1) 0 = I (o + 1) 0) && (decide (I (a + 1) 1 = I (o + 1) 1) && decide (I (a + 1) 2 = I (o + 1) 2)))))
set_option maxHeartbeats 1000000 in
/-- Resource.isLike -/
theorem g48 {a o : Nat} (hM : (mz_SH L)[a]? = some (2, 5)) (hP : (mz_SH L)[a + 1]? = some (65, 3)) (hR : R a 4 = some (a + 1)) (hMo : (mz_SH L)[o]? = some (2, 5)) (hPo : (mz_SH L)[o + 1]? = some (65, 3)) (hRo : R o 4 = some (o + 1)) :
    mj_G pj_P 48 [.ref a, .ref o] (mz_SH L, I, R) (fun r => r = (some (.int (pz (cr_lik I a o))), (mz_SH L, I, R))) := by
  refine mj_enter in_48 (L := [.ref a, .ref o, .retAddr 0]) rfl ?_
  refine mj_b_rload_n (hE := fe_48_0) (hv := rfl) (k := ?_)
  refine mj_b_getV (hE := fe_48_1) (hM := hM) (hv := rfl) (k := ?_)
  refine mj_b_rload_n (hE := fe_48_4) (hv := rfl) (k := ?_)
  refine mj_b_getV (hE := fe_48_5) (hM := hMo) (hv := rfl) (k := ?_)
  refine mj_b_if2 (hE := fe_48_8) (kt := fun h8 => ?_) (kf := fun h8 => ?_)
  · simp only [mj_cnd, decide_eq_true_eq, decide_eq_false_iff_not, Bool.not_eq_true', Bool.not_eq_false', pz_0, Bool.not_eq_false, Bool.not_eq_true] at h8
    refine mj_b_iconst (hE := fe_48_33) (k := ?_)
    exact mj_b_retZ (hE := fe_48_34) (hi := in_48) (by first | decide | exact pz_01 _) (by first | (simp [cr_lik, pz, h8]; done) | (simp_all [cr_lik, pz]; done) | rfl)
  · simp only [mj_cnd, decide_eq_true_eq, decide_eq_false_iff_not, Bool.not_eq_true', Bool.not_eq_false', pz_0, Bool.not_eq_false, Bool.not_eq_true] at h8
    refine mj_b_rload_n (hE := fe_48_11) (hv := rfl) (k := ?_)
    refine mj_b_getV (hE := fe_48_12) (hM := hM) (hv := rfl) (k := ?_)
    refine mj_b_rload_n (hE := fe_48_15) (hv := rfl) (k := ?_)
    refine mj_b_getV (hE := fe_48_16) (hM := hMo) (hv := rfl) (k := ?_)
    refine mj_b_if2 (hE := fe_48_19) (kt := fun h19 => ?_) (kf := fun h19 => ?_)
    · simp only [mj_cnd, decide_eq_true_eq, decide_eq_false_iff_not, Bool.not_eq_true', Bool.not_eq_false', pz_0, Bool.not_eq_false, Bool.not_eq_true] at h19
      refine mj_b_iconst (hE := fe_48_33) (k := ?_)
      exact mj_b_retZ (hE := fe_48_34) (hi := in_48) (by first | decide | exact pz_01 _) (by first | (simp [cr_lik, pz, h8, h19]; done) | (simp_all [cr_lik, pz]; done) | rfl)
    · simp only [mj_cnd, decide_eq_true_eq, decide_eq_false_iff_not, Bool.not_eq_true', Bool.not_eq_false', pz_0, Bool.not_eq_false, Bool.not_eq_true] at h19
      refine mj_b_rload_n (hE := fe_48_22) (hv := rfl) (k := ?_)
      refine mj_b_getV (hE := fe_48_23) (hM := hM) (hv := rfl) (k := ?_)
      refine mj_b_rload_n (hE := fe_48_26) (hv := rfl) (k := ?_)
      refine mj_b_getV (hE := fe_48_27) (hM := hMo) (hv := rfl) (k := ?_)
      refine mj_b_if2 (hE := fe_48_30) (kt := fun h30 => ?_) (kf := fun h30 => ?_)
      · simp only [mj_cnd, decide_eq_true_eq, decide_eq_false_iff_not, Bool.not_eq_true', Bool.not_eq_false', pz_0, Bool.not_eq_false, Bool.not_eq_true] at h30
        refine mj_b_iconst (hE := fe_48_35) (k := ?_)
        refine mj_b_istore_n (hE := fe_48_36) (hx := Nat.le_of_ble_eq_true rfl) (k := ?_)
        refine mj_b_iload_n (hE := fe_48_37) (hv := rfl) (k := ?_)
        refine mj_b_iconst (hE := fe_48_38) (k := ?_)
        refine mj_b_if2 (hE := fe_48_39) (kt := fun h => absurd h (by decide +kernel)) (kf := fun _ => ?_)
        refine mj_b_rload_n (hE := fe_48_42) (hv := rfl) (k := ?_)
        refine mj_b_getQ (hE := fe_48_43) (hM := by assumption) (hv := by assumption) (k := ?_)
        refine mj_b_iload_n (hE := fe_48_46) (hv := rfl) (k := ?_)
        refine mj_b_ialdC (hE := fe_48_47) (c := 0) (hM := by assumption) (ht := Or.inr rfl) (hi := by decide +kernel) (hc := by decide +kernel) (k := ?_)
        refine mj_b_rload_n (hE := fe_48_48) (hv := rfl) (k := ?_)
        refine mj_b_getQ (hE := fe_48_49) (hM := by assumption) (hv := by assumption) (k := ?_)
        refine mj_b_iload_n (hE := fe_48_52) (hv := rfl) (k := ?_)
        refine mj_b_ialdC (hE := fe_48_53) (c := 0) (hM := by assumption) (ht := Or.inr rfl) (hi := by decide +kernel) (hc := by decide +kernel) (k := ?_)
        refine mj_b_if2 (hE := fe_48_54) (kt := fun h54 => ?_) (kf := fun h54 => ?_)
        · simp only [mj_cnd, decide_eq_true_eq, decide_eq_false_iff_not, Bool.not_eq_true', Bool.not_eq_false', pz_0, Bool.not_eq_false, Bool.not_eq_true] at h54
          refine mj_b_iinc (hE := fe_48_59) (hv := rfl) (k := ?_)
          refine mj_b_goto (hE := fe_48_62) (k := ?_)
          refine mj_b_iload_n (hE := fe_48_37) (hv := rfl) (k := ?_)
          refine mj_b_iconst (hE := fe_48_38) (k := ?_)
          refine mj_b_if2 (hE := fe_48_39) (kt := fun h => absurd h (by decide +kernel)) (kf := fun _ => ?_)
          refine mj_b_rload_n (hE := fe_48_42) (hv := rfl) (k := ?_)
          refine mj_b_getQ (hE := fe_48_43) (hM := by assumption) (hv := by assumption) (k := ?_)
          refine mj_b_iload_n (hE := fe_48_46) (hv := rfl) (k := ?_)
          refine mj_b_ialdC (hE := fe_48_47) (c := 1) (hM := by assumption) (ht := Or.inr rfl) (hi := by decide +kernel) (hc := by decide +kernel) (k := ?_)
          refine mj_b_rload_n (hE := fe_48_48) (hv := rfl) (k := ?_)
          refine mj_b_getQ (hE := fe_48_49) (hM := by assumption) (hv := by assumption) (k := ?_)
          refine mj_b_iload_n (hE := fe_48_52) (hv := rfl) (k := ?_)
          refine mj_b_ialdC (hE := fe_48_53) (c := 1) (hM := by assumption) (ht := Or.inr rfl) (hi := by decide +kernel) (hc := by decide +kernel) (k := ?_)
          refine mj_b_if2 (hE := fe_48_54) (kt := fun h54_4 => ?_) (kf := fun h54_4 => ?_)
          · simp only [mj_cnd, decide_eq_true_eq, decide_eq_false_iff_not, Bool.not_eq_true', Bool.not_eq_false', pz_0, Bool.not_eq_false, Bool.not_eq_true] at h54_4
            refine mj_b_iinc (hE := fe_48_59) (hv := rfl) (k := ?_)
            refine mj_b_goto (hE := fe_48_62) (k := ?_)
            refine mj_b_iload_n (hE := fe_48_37) (hv := rfl) (k := ?_)
            refine mj_b_iconst (hE := fe_48_38) (k := ?_)
            refine mj_b_if2 (hE := fe_48_39) (kt := fun h => absurd h (by decide +kernel)) (kf := fun _ => ?_)
            refine mj_b_rload_n (hE := fe_48_42) (hv := rfl) (k := ?_)
            refine mj_b_getQ (hE := fe_48_43) (hM := by assumption) (hv := by assumption) (k := ?_)
            refine mj_b_iload_n (hE := fe_48_46) (hv := rfl) (k := ?_)
            refine mj_b_ialdC (hE := fe_48_47) (c := 2) (hM := by assumption) (ht := Or.inr rfl) (hi := by decide +kernel) (hc := by decide +kernel) (k := ?_)
            refine mj_b_rload_n (hE := fe_48_48) (hv := rfl) (k := ?_)
            refine mj_b_getQ (hE := fe_48_49) (hM := by assumption) (hv := by assumption) (k := ?_)
            refine mj_b_iload_n (hE := fe_48_52) (hv := rfl) (k := ?_)
            refine mj_b_ialdC (hE := fe_48_53) (c := 2) (hM := by assumption) (ht := Or.inr rfl) (hi := by decide +kernel) (hc := by decide +kernel) (k := ?_)
            refine mj_b_if2 (hE := fe_48_54) (kt := fun h54_5 => ?_) (kf := fun h54_5 => ?_)
            · simp only [mj_cnd, decide_eq_true_eq, decide_eq_false_iff_not, Bool.not_eq_true', Bool.not_eq_false', pz_0, Bool.not_eq_false, Bool.not_eq_true] at h54_5
              refine mj_b_iinc (hE := fe_48_59) (hv := rfl) (k := ?_)
              refine mj_b_goto (hE := fe_48_62) (k := ?_)
              refine mj_b_iload_n (hE := fe_48_37) (hv := rfl) (k := ?_)
              refine mj_b_iconst (hE := fe_48_38) (k := ?_)
              refine mj_b_if2 (hE := fe_48_39) (kt := fun _ => ?_) (kf := fun h => absurd h (by decide +kernel))
              refine mj_b_iconst (hE := fe_48_65) (k := ?_)
              exact mj_b_retZ (hE := fe_48_66) (hi := in_48) (by first | decide | exact pz_01 _) (by first | (simp [cr_lik, pz, h8, h19, h30, h54, h54_4, h54_5]; done) | (simp_all [cr_lik, pz]; done) | rfl)
            · simp only [mj_cnd, decide_eq_true_eq, decide_eq_false_iff_not, Bool.not_eq_true', Bool.not_eq_false', pz_0, Bool.not_eq_false, Bool.not_eq_true] at h54_5
              refine mj_b_iconst (hE := fe_48_57) (k := ?_)
              exact mj_b_retZ (hE := fe_48_58) (hi := in_48) (by first | decide | exact pz_01 _) (by first | (simp [cr_lik, pz, h8, h19, h30, h54, h54_4, h54_5]; done) | (simp_all [cr_lik, pz]; done) | rfl)
          · simp only [mj_cnd, decide_eq_true_eq, decide_eq_false_iff_not, Bool.not_eq_true', Bool.not_eq_false', pz_0, Bool.not_eq_false, Bool.not_eq_true] at h54_4
            refine mj_b_iconst (hE := fe_48_57) (k := ?_)
            exact mj_b_retZ (hE := fe_48_58) (hi := in_48) (by first | decide | exact pz_01 _) (by first | (simp [cr_lik, pz, h8, h19, h30, h54, h54_4]; done) | (simp_all [cr_lik, pz]; done) | rfl)
        · simp only [mj_cnd, decide_eq_true_eq, decide_eq_false_iff_not, Bool.not_eq_true', Bool.not_eq_false', pz_0, Bool.not_eq_false, Bool.not_eq_true] at h54
          refine mj_b_iconst (hE := fe_48_57) (k := ?_)
          exact mj_b_retZ (hE := fe_48_58) (hi := in_48) (by first | decide | exact pz_01 _) (by first | (simp [cr_lik, pz, h8, h19, h30, h54]; done) | (simp_all [cr_lik, pz]; done) | rfl)
      · simp only [mj_cnd, decide_eq_true_eq, decide_eq_false_iff_not, Bool.not_eq_true', Bool.not_eq_false', pz_0, Bool.not_eq_false, Bool.not_eq_true] at h30
        refine mj_b_iconst (hE := fe_48_33) (k := ?_)
        exact mj_b_retZ (hE := fe_48_34) (hi := in_48) (by first | decide | exact pz_01 _) (by first | (simp [cr_lik, pz, h8, h19, h30]; done) | (simp_all [cr_lik, pz]; done) | rfl)
/-- a row takes another's contents -/
def cr_tak (I : Nat → Nat → Int32) (a o : Nat) : Nat → Nat → Int32 := fun x j => if x = a ∧ j < 4 then I o j else if x = a + 1 ∧ j < 3 then I (o + 1) j else I x j
theorem cr_tak_eq {a o : Nat} (h1 : o ≠ a) (h2 : o ≠ a + 1) (h3 : o + 1 ≠ a) : mj_u (mj_u (mj_u (mj_u (mj_u (mj_u (mj_u I a 0 (I o 0)) a 1 (I o 1)) a 2 (I o 2)) a 3 (I o 3)) (a + 1) 0 (I (o + 1) 0)) (a + 1) 1 (I (o + 1) 1)) (a + 1) 2 (I (o + 1) 2) = cr_tak I a o := by
  funext x j
  unfold cr_tak mj_u
  by_cases hx : x = a
  · subst hx
    rcases (show j = 0 ∨ j = 1 ∨ j = 2 ∨ j = 3 ∨ 4 ≤ j by omega) with rfl | rfl | rfl | rfl | hj
    · simp
    · simp
    · simp
    · simp
    · have q0 : ¬ j = 0 := by omega
      have q1 : ¬ j = 1 := by omega
      have q2 : ¬ j = 2 := by omega
      have q3 : ¬ j = 3 := by omega
      have q4 : ¬ j < 4 := by omega
      simp [q0, q1, q2, q3, q4]
  · by_cases hx1 : x = a + 1
    · subst hx1
      rcases (show j = 0 ∨ j = 1 ∨ j = 2 ∨ 3 ≤ j by omega) with rfl | rfl | rfl | hj
      · simp
      · simp
      · simp
      · have q0 : ¬ j = 0 := by omega
        have q1 : ¬ j = 1 := by omega
        have q2 : ¬ j = 2 := by omega
        have q4 : ¬ j < 3 := by omega
        simp [q0, q1, q2, q4]
    · simp [hx, hx1]
set_option maxHeartbeats 1000000 in
/-- Resource.takeFrom -/
theorem g40 {a o : Nat} (hM : (mz_SH L)[a]? = some (2, 5)) (hP : (mz_SH L)[a + 1]? = some (65, 3)) (hR : R a 4 = some (a + 1)) (hMo : (mz_SH L)[o]? = some (2, 5)) (hPo : (mz_SH L)[o + 1]? = some (65, 3)) (hRo : R o 4 = some (o + 1)) (h1 : o ≠ a) (h2 : o ≠ a + 1) (h3 : o + 1 ≠ a) :
    mj_G pj_P 40 [.ref a, .ref o] (mz_SH L, I, R) (fun r => r = (none, (mz_SH L, cr_tak I a o, R))) := by
  have h4 : o + 1 ≠ a + 1 := by omega
  refine mj_enter in_40 (L := [.ref a, .ref o, .retAddr 0]) rfl ?_
  rw [← cr_tak_eq h1 h2 h3]
  refine mj_b_rload_n (hE := fe_40_0) (hv := rfl) (k := ?_)
  refine mj_b_rload_n (hE := fe_40_1) (hv := rfl) (k := ?_)
  refine mj_b_getV (hE := fe_40_2) (hM := hMo) (hv := rfl) (k := ?_)
  refine mj_b_putI (hE := fe_40_5) (hw := Or.inl rfl) (hM := by assumption) (k := ?_)
  refine mj_b_rload_n (hE := fe_40_8) (hv := rfl) (k := ?_)
  refine mj_b_rload_n (hE := fe_40_9) (hv := rfl) (k := ?_)
  refine mj_b_getV (hE := fe_40_10) (hM := hMo) (hv := rfl) (k := ?_)
  refine mj_b_putI (hE := fe_40_13) (hw := Or.inl rfl) (hM := by assumption) (k := ?_)
  refine mj_b_rload_n (hE := fe_40_16) (hv := rfl) (k := ?_)
  refine mj_b_rload_n (hE := fe_40_17) (hv := rfl) (k := ?_)
  refine mj_b_getV (hE := fe_40_18) (hM := hMo) (hv := rfl) (k := ?_)
  refine mj_b_putI (hE := fe_40_21) (hw := Or.inl rfl) (hM := by assumption) (k := ?_)
  refine mj_b_rload_n (hE := fe_40_24) (hv := rfl) (k := ?_)
  refine mj_b_rload_n (hE := fe_40_25) (hv := rfl) (k := ?_)
  refine mj_b_getV (hE := fe_40_26) (hM := hMo) (hv := rfl) (k := ?_)
  refine mj_b_putI (hE := fe_40_29) (hw := Or.inl rfl) (hM := by assumption) (k := ?_)
  refine mj_b_iconst (hE := fe_40_32) (k := ?_)
  refine mj_b_istore_n (hE := fe_40_33) (hx := Nat.le_of_ble_eq_true rfl) (k := ?_)
  refine mj_b_iload_n (hE := fe_40_34) (hv := rfl) (k := ?_)
  refine mj_b_iconst (hE := fe_40_35) (k := ?_)
  refine mj_b_if2 (hE := fe_40_36) (kt := fun h => absurd h (by decide +kernel)) (kf := fun _ => ?_)
  refine mj_b_rload_n (hE := fe_40_39) (hv := rfl) (k := ?_)
  refine mj_b_getQ (hE := fe_40_40) (hM := by assumption) (hv := by assumption) (k := ?_)
  refine mj_b_iload_n (hE := fe_40_43) (hv := rfl) (k := ?_)
  refine mj_b_rload_n (hE := fe_40_44) (hv := rfl) (k := ?_)
  refine mj_b_getQ (hE := fe_40_45) (hM := by assumption) (hv := by assumption) (k := ?_)
  refine mj_b_iload_n (hE := fe_40_48) (hv := rfl) (k := ?_)
  refine mj_b_ialdC (hE := fe_40_49) (c := 0) (hM := hPo) (ht := Or.inr rfl) (hi := by decide +kernel) (hc := by decide +kernel) (k := ?_)
  refine mj_b_iastC (hE := fe_40_50) (c := 0) (hM := hP) (hi := by decide +kernel) (hc := by decide +kernel) (k := ?_)
  refine mj_b_iinc (hE := fe_40_51) (hv := rfl) (k := ?_)
  refine mj_b_goto (hE := fe_40_54) (k := ?_)
  refine mj_b_iload_n (hE := fe_40_34) (hv := rfl) (k := ?_)
  refine mj_b_iconst (hE := fe_40_35) (k := ?_)
  refine mj_b_if2 (hE := fe_40_36) (kt := fun h => absurd h (by decide +kernel)) (kf := fun _ => ?_)
  refine mj_b_rload_n (hE := fe_40_39) (hv := rfl) (k := ?_)
  refine mj_b_getQ (hE := fe_40_40) (hM := by assumption) (hv := by assumption) (k := ?_)
  refine mj_b_iload_n (hE := fe_40_43) (hv := rfl) (k := ?_)
  refine mj_b_rload_n (hE := fe_40_44) (hv := rfl) (k := ?_)
  refine mj_b_getQ (hE := fe_40_45) (hM := by assumption) (hv := by assumption) (k := ?_)
  refine mj_b_iload_n (hE := fe_40_48) (hv := rfl) (k := ?_)
  refine mj_b_ialdC (hE := fe_40_49) (c := 1) (hM := hPo) (ht := Or.inr rfl) (hi := by decide +kernel) (hc := by decide +kernel) (k := ?_)
  refine mj_b_iastC (hE := fe_40_50) (c := 1) (hM := hP) (hi := by decide +kernel) (hc := by decide +kernel) (k := ?_)
  refine mj_b_iinc (hE := fe_40_51) (hv := rfl) (k := ?_)
  refine mj_b_goto (hE := fe_40_54) (k := ?_)
  refine mj_b_iload_n (hE := fe_40_34) (hv := rfl) (k := ?_)
  refine mj_b_iconst (hE := fe_40_35) (k := ?_)
  refine mj_b_if2 (hE := fe_40_36) (kt := fun h => absurd h (by decide +kernel)) (kf := fun _ => ?_)
  refine mj_b_rload_n (hE := fe_40_39) (hv := rfl) (k := ?_)
  refine mj_b_getQ (hE := fe_40_40) (hM := by assumption) (hv := by assumption) (k := ?_)
  refine mj_b_iload_n (hE := fe_40_43) (hv := rfl) (k := ?_)
  refine mj_b_rload_n (hE := fe_40_44) (hv := rfl) (k := ?_)
  refine mj_b_getQ (hE := fe_40_45) (hM := by assumption) (hv := by assumption) (k := ?_)
  refine mj_b_iload_n (hE := fe_40_48) (hv := rfl) (k := ?_)
  refine mj_b_ialdC (hE := fe_40_49) (c := 2) (hM := hPo) (ht := Or.inr rfl) (hi := by decide +kernel) (hc := by decide +kernel) (k := ?_)
  refine mj_b_iastC (hE := fe_40_50) (c := 2) (hM := hP) (hi := by decide +kernel) (hc := by decide +kernel) (k := ?_)
  refine mj_b_iinc (hE := fe_40_51) (hv := rfl) (k := ?_)
  refine mj_b_goto (hE := fe_40_54) (k := ?_)
  refine mj_b_iload_n (hE := fe_40_34) (hv := rfl) (k := ?_)
  refine mj_b_iconst (hE := fe_40_35) (k := ?_)
  refine mj_b_if2 (hE := fe_40_36) (kt := fun _ => ?_) (kf := fun h => absurd h (by decide +kernel))
  exact mj_b_retV (hE := fe_40_57) (hi := in_40) (by first | (simp [mj_u, h1, h2, h3, h4, pz]; done) | (simp_all [mj_u, h1, h2, h3, h4, pz]; done) | rfl)
end SW
section MR
variable {P : mj_P} {f pc nx x y w : Nat} {L st : List Value} {M : mj_H} {Q : Option Value × mj_H → Prop} {z : Int32} {tb : List (Int × Nat)}
theorem mj_b_ialdN {i v : Int32} {a n t c : Nat} (hE : P.1 f pc = some (.iaload, nx, x, y, 0, z, tb)) (hM : M.1[a]? = some (t, n)) (ht : t = 64 ∨ t = 65) (hj : i = nI c) (hc : c < n) (hn : n < 2 ^ 31) (hv : M.2.1 a c = v) (k : mj_T P f nx L (.int v :: st) M Q) : mj_T P f pc L (.int i :: .ref a :: st) M Q := by
  subst hj; subst hv
  refine mj_b_iald hE (by decide) (by decide) hM ht (mj_ix_nI hc hn) ?_
  rw [nI_clamp (by omega)]
  exact k
theorem mj_b_baldN {i v : Int32} {a n c : Nat} (hE : P.1 f pc = some (.baload, nx, x, y, 0, z, tb)) (hM : M.1[a]? = some (66, n)) (hj : i = nI c) (hc : c < n) (hn : n < 2 ^ 31) (hv : M.2.1 a c = v) (k : mj_T P f nx L (.int v :: st) M Q) : mj_T P f pc L (.int i :: .ref a :: st) M Q := by
  subst hj; subst hv
  refine mj_b_bald hE (by decide) (by decide) hM (mj_ix_nI hc hn) ?_
  rw [nI_clamp (by omega)]
  exact k
end MR
