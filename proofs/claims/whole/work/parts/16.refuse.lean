/-! ===== the class: what is refused ===== -/
def c_full (nr : Nat) : Bool := !decide (nI nr < Int32.ofNat 13)
theorem g36f {L b n : Nat} {pi : Nat → Nat} {I : Nat → Nat → Int32} {R : Nat → Nat → Option Nat} (hb : b = 2 ∨ b = 37) (hok : cs_ok b pi R) (hn : I b 1 = nI n) : mj_G pj_P 36 [.ref b] (mz_SH L, I, R) (fun r => r = (some (.int (pz (c_full n))), (mz_SH L, I, R))) := g36 hb hok hn
def c_putR (I : Nat → Nat → Int32) (b : Nat) (pi : Nat → Nat) (dp al : Nat → Bool) (nr nl nc : Nat) (p : Int32) : Int32 :=
  if cs_coll I b pi nr p = true then 405 else if cs_coll I b pi nr (p / 8) = false then 409
  else if c_bar I b dp al nl nc p = true ∨ (cs_has I b pi nr p = false ∧ c_bar I b dp al nl nc (p / 8) = true) then 423
  else if cs_has I b pi nr p = false ∧ c_full nr = true then 507 else -1
section RF
variable {L sn sx nr nl nc : Nat} {pi : Nat → Nat} {ex dp al ng : Nat → Bool} {I : Nat → Nat → Int32} {R : Nat → Nat → Option Nat}
set_option maxHeartbeats 1000000 in
/-- LockedTree.putRefusal -/
theorem g29 (p : Int32) (hs : c_st sn pi nr nl ex dp I R) (hh : c_hd nc al ng I R) (ht : c_top sn sx R) :
    mj_G pj_P 29 [.ref 1, .int p] (mz_SH L, I, R) (fun r => r = (some (.int (c_putR I sn pi dp al nr nl nc p)), (mz_SH L, I, R))) := by
  have h1 := sh_1 L
  have ht1 := ht.1
  have hS := sh_S L hs.1
  refine mj_enter in_29 (L := [.ref 1, .int p, .retAddr 0]) rfl ?_
  refine mj_b_rload_n (hE := fe_29_0) (hv := rfl) (k := ?_)
  refine mj_b_getQ (hE := fe_29_1) (hM := by assumption) (hv := by assumption) (k := ?_)
  refine mj_b_iload_n (hE := fe_29_4) (hv := rfl) (k := ?_)
  refine mj_b_callR (hE := fe_29_5) (hi := in_30) (h1 := g30 _ hs.1 hs.2.1 hs.2.2.1.1 hs.2.2.1.2) (hc := mj_cok_v rfl rfl (by assumption)) (ha := rfl) (hr := rfl) ?_
  refine mj_b_if1 (hE := fe_29_8) (kt := fun h8 => ?_) (kf := fun h8 => ?_)
  · simp only [mj_cnd, decide_eq_true_eq, decide_eq_false_iff_not, Bool.not_eq_true', Bool.not_eq_false', pz_0, Bool.not_eq_false, Bool.not_eq_true] at h8
    refine mj_b_rload_n (hE := fe_29_15) (hv := rfl) (k := ?_)
    refine mj_b_getQ (hE := fe_29_16) (hM := by assumption) (hv := by assumption) (k := ?_)
    refine mj_b_iload_n (hE := fe_29_19) (hv := rfl) (k := ?_)
    refine mj_b_callR (hE := fe_29_20) (hi := in_31) (h1 := g31 _ _) (hc := mj_cok_s rfl) (ha := rfl) (hr := rfl) ?_
    refine mj_b_callR (hE := fe_29_23) (hi := in_30) (h1 := g30 _ hs.1 hs.2.1 hs.2.2.1.1 hs.2.2.1.2) (hc := mj_cok_v rfl rfl (by assumption)) (ha := rfl) (hr := rfl) ?_
    refine mj_b_if1 (hE := fe_29_26) (kt := fun h26 => ?_) (kf := fun h26 => ?_)
    · simp only [mj_cnd, decide_eq_true_eq, decide_eq_false_iff_not, Bool.not_eq_true', Bool.not_eq_false', pz_0, Bool.not_eq_false, Bool.not_eq_true] at h26
      refine mj_b_rload_n (hE := fe_29_33) (hv := rfl) (k := ?_)
      refine mj_b_getQ (hE := fe_29_34) (hM := by assumption) (hv := by assumption) (k := ?_)
      refine mj_b_iload_n (hE := fe_29_37) (hv := rfl) (k := ?_)
      refine mj_b_callR (hE := fe_29_38) (hi := in_32) (h1 := g32 _ hs.1 hs.2.1 hs.2.2.1.1 hs.2.2.1.2) (hc := mj_cok_v rfl rfl (by assumption)) (ha := rfl) (hr := rfl) ?_
      refine mj_b_if1 (hE := fe_29_41) (kt := fun h41 => ?_) (kf := fun h41 => ?_)
      · simp only [mj_cnd, decide_eq_true_eq, decide_eq_false_iff_not, Bool.not_eq_true', Bool.not_eq_false', pz_0, Bool.not_eq_false, Bool.not_eq_true] at h41
        refine mj_b_iconst (hE := fe_29_48) (k := ?_)
        refine mj_b_istore_n (hE := fe_29_49) (hx := Nat.le_of_ble_eq_true rfl) (k := ?_)
        refine mj_b_rload_n (hE := fe_29_50) (hv := rfl) (k := ?_)
        refine mj_b_iload_n (hE := fe_29_51) (hv := rfl) (k := ?_)
        refine mj_b_callR (hE := fe_29_52) (hi := in_33) (h1 := g33 _ hs hh ht) (hc := mj_cok_v rfl rfl (by assumption)) (ha := rfl) (hr := rfl) ?_
        refine mj_b_if1 (hE := fe_29_55) (kt := fun h55 => ?_) (kf := fun h55 => ?_)
        · simp only [mj_cnd, decide_eq_true_eq, decide_eq_false_iff_not, Bool.not_eq_true', Bool.not_eq_false', pz_0, Bool.not_eq_false, Bool.not_eq_true] at h55
          refine mj_b_sipush (hE := fe_29_73) (k := ?_)
          exact mj_b_retI (hE := fe_29_76) (hi := in_29) (by first | (simp [c_putR, pz, h8, h26, h41, h55]; done) | (simp_all [c_putR, pz]; done) | rfl)
        · simp only [mj_cnd, decide_eq_true_eq, decide_eq_false_iff_not, Bool.not_eq_true', Bool.not_eq_false', pz_0, Bool.not_eq_false, Bool.not_eq_true] at h55
          refine mj_b_iload_n (hE := fe_29_58) (hv := rfl) (k := ?_)
          refine mj_b_if1 (hE := fe_29_59) (kt := fun _ => ?_) (kf := fun h => absurd h (by decide +kernel))
          refine mj_b_iload_n (hE := fe_29_77) (hv := rfl) (k := ?_)
          refine mj_b_if1 (hE := fe_29_78) (kt := fun _ => ?_) (kf := fun h => absurd h (by decide +kernel))
          refine mj_b_iconst (hE := fe_29_97) (k := ?_)
          exact mj_b_retI (hE := fe_29_98) (hi := in_29) (by first | (simp [c_putR, pz, h8, h26, h41, h55]; done) | (simp_all [c_putR, pz]; done) | rfl)
      · simp only [mj_cnd, decide_eq_true_eq, decide_eq_false_iff_not, Bool.not_eq_true', Bool.not_eq_false', pz_0, Bool.not_eq_false, Bool.not_eq_true] at h41
        refine mj_b_iconst (hE := fe_29_44) (k := ?_)
        refine mj_b_goto (hE := fe_29_45) (k := ?_)
        refine mj_b_istore_n (hE := fe_29_49) (hx := Nat.le_of_ble_eq_true rfl) (k := ?_)
        refine mj_b_rload_n (hE := fe_29_50) (hv := rfl) (k := ?_)
        refine mj_b_iload_n (hE := fe_29_51) (hv := rfl) (k := ?_)
        refine mj_b_callR (hE := fe_29_52) (hi := in_33) (h1 := g33 _ hs hh ht) (hc := mj_cok_v rfl rfl (by assumption)) (ha := rfl) (hr := rfl) ?_
        refine mj_b_if1 (hE := fe_29_55) (kt := fun h55 => ?_) (kf := fun h55 => ?_)
        · simp only [mj_cnd, decide_eq_true_eq, decide_eq_false_iff_not, Bool.not_eq_true', Bool.not_eq_false', pz_0, Bool.not_eq_false, Bool.not_eq_true] at h55
          refine mj_b_sipush (hE := fe_29_73) (k := ?_)
          exact mj_b_retI (hE := fe_29_76) (hi := in_29) (by first | (simp [c_putR, pz, h8, h26, h41, h55]; done) | (simp_all [c_putR, pz]; done) | rfl)
        · simp only [mj_cnd, decide_eq_true_eq, decide_eq_false_iff_not, Bool.not_eq_true', Bool.not_eq_false', pz_0, Bool.not_eq_false, Bool.not_eq_true] at h55
          refine mj_b_iload_n (hE := fe_29_58) (hv := rfl) (k := ?_)
          refine mj_b_if1 (hE := fe_29_59) (kt := fun h => absurd h (by decide +kernel)) (kf := fun _ => ?_)
          refine mj_b_rload_n (hE := fe_29_62) (hv := rfl) (k := ?_)
          refine mj_b_iload_n (hE := fe_29_63) (hv := rfl) (k := ?_)
          refine mj_b_callR (hE := fe_29_64) (hi := in_31) (h1 := g31 _ _) (hc := mj_cok_s rfl) (ha := rfl) (hr := rfl) ?_
          refine mj_b_callR (hE := fe_29_67) (hi := in_33) (h1 := g33 _ hs hh ht) (hc := mj_cok_v rfl rfl (by assumption)) (ha := rfl) (hr := rfl) ?_
          refine mj_b_if1 (hE := fe_29_70) (kt := fun h70 => ?_) (kf := fun h70 => ?_)
          · simp only [mj_cnd, decide_eq_true_eq, decide_eq_false_iff_not, Bool.not_eq_true', Bool.not_eq_false', pz_0, Bool.not_eq_false, Bool.not_eq_true] at h70
            refine mj_b_iload_n (hE := fe_29_77) (hv := rfl) (k := ?_)
            refine mj_b_if1 (hE := fe_29_78) (kt := fun h => absurd h (by decide +kernel)) (kf := fun _ => ?_)
            refine mj_b_rload_n (hE := fe_29_81) (hv := rfl) (k := ?_)
            refine mj_b_getQ (hE := fe_29_82) (hM := by assumption) (hv := by assumption) (k := ?_)
            refine mj_b_callR (hE := fe_29_85) (hi := in_36) (h1 := g36f hs.1 hs.2.1 hs.2.2.1.1) (hc := mj_cok_v rfl rfl (by assumption)) (ha := rfl) (hr := rfl) ?_
            refine mj_b_if1 (hE := fe_29_88) (kt := fun h88 => ?_) (kf := fun h88 => ?_)
            · simp only [mj_cnd, decide_eq_true_eq, decide_eq_false_iff_not, Bool.not_eq_true', Bool.not_eq_false', pz_0, Bool.not_eq_false, Bool.not_eq_true] at h88
              refine mj_b_iconst (hE := fe_29_97) (k := ?_)
              exact mj_b_retI (hE := fe_29_98) (hi := in_29) (by first | (simp [c_putR, pz, h8, h26, h41, h55, h70, h88]; done) | (simp_all [c_putR, pz]; done) | rfl)
            · simp only [mj_cnd, decide_eq_true_eq, decide_eq_false_iff_not, Bool.not_eq_true', Bool.not_eq_false', pz_0, Bool.not_eq_false, Bool.not_eq_true] at h88
              refine mj_b_sipush (hE := fe_29_91) (k := ?_)
              refine mj_b_goto (hE := fe_29_94) (k := ?_)
              exact mj_b_retI (hE := fe_29_98) (hi := in_29) (by first | (simp [c_putR, pz, h8, h26, h41, h55, h70, h88]; done) | (simp_all [c_putR, pz]; done) | rfl)
          · simp only [mj_cnd, decide_eq_true_eq, decide_eq_false_iff_not, Bool.not_eq_true', Bool.not_eq_false', pz_0, Bool.not_eq_false, Bool.not_eq_true] at h70
            refine mj_b_sipush (hE := fe_29_73) (k := ?_)
            exact mj_b_retI (hE := fe_29_76) (hi := in_29) (by first | (simp [c_putR, pz, h8, h26, h41, h55, h70]; done) | (simp_all [c_putR, pz]; done) | rfl)
    · simp only [mj_cnd, decide_eq_true_eq, decide_eq_false_iff_not, Bool.not_eq_true', Bool.not_eq_false', pz_0, Bool.not_eq_false, Bool.not_eq_true] at h26
      refine mj_b_sipush (hE := fe_29_29) (k := ?_)
      exact mj_b_retI (hE := fe_29_32) (hi := in_29) (by first | (simp [c_putR, pz, h8, h26]; done) | (simp_all [c_putR, pz]; done) | rfl)
  · simp only [mj_cnd, decide_eq_true_eq, decide_eq_false_iff_not, Bool.not_eq_true', Bool.not_eq_false', pz_0, Bool.not_eq_false, Bool.not_eq_true] at h8
    refine mj_b_sipush (hE := fe_29_11) (k := ?_)
    exact mj_b_retI (hE := fe_29_14) (hi := in_29) (by first | (simp [c_putR, pz, h8]; done) | (simp_all [c_putR, pz]; done) | rfl)
def c_mkR (I : Nat → Nat → Int32) (b : Nat) (pi : Nat → Nat) (dp al : Nat → Bool) (nr nl nc : Nat) (p : Int32) : Int32 :=
  if cs_has I b pi nr p = true then 405 else if cs_coll I b pi nr (p / 8) = false then 409
  else if c_bar I b dp al nl nc p = true ∨ c_bar I b dp al nl nc (p / 8) = true then 423
  else if c_full nr = true then 507 else -1
set_option maxHeartbeats 1000000 in
/-- LockedTree.mkcolRefusal -/
theorem g51 (p : Int32) (hs : c_st sn pi nr nl ex dp I R) (hh : c_hd nc al ng I R) (ht : c_top sn sx R) :
    mj_G pj_P 51 [.ref 1, .int p] (mz_SH L, I, R) (fun r => r = (some (.int (c_mkR I sn pi dp al nr nl nc p)), (mz_SH L, I, R))) := by
  have h1 := sh_1 L
  have ht1 := ht.1
  have hS := sh_S L hs.1
  refine mj_enter in_51 (L := [.ref 1, .int p]) rfl ?_
  refine mj_b_rload_n (hE := fe_51_0) (hv := rfl) (k := ?_)
  refine mj_b_getQ (hE := fe_51_1) (hM := by assumption) (hv := by assumption) (k := ?_)
  refine mj_b_iload_n (hE := fe_51_4) (hv := rfl) (k := ?_)
  refine mj_b_callR (hE := fe_51_5) (hi := in_32) (h1 := g32 _ hs.1 hs.2.1 hs.2.2.1.1 hs.2.2.1.2) (hc := mj_cok_v rfl rfl (by assumption)) (ha := rfl) (hr := rfl) ?_
  refine mj_b_if1 (hE := fe_51_8) (kt := fun h8 => ?_) (kf := fun h8 => ?_)
  · simp only [mj_cnd, decide_eq_true_eq, decide_eq_false_iff_not, Bool.not_eq_true', Bool.not_eq_false', pz_0, Bool.not_eq_false, Bool.not_eq_true] at h8
    refine mj_b_rload_n (hE := fe_51_15) (hv := rfl) (k := ?_)
    refine mj_b_getQ (hE := fe_51_16) (hM := by assumption) (hv := by assumption) (k := ?_)
    refine mj_b_iload_n (hE := fe_51_19) (hv := rfl) (k := ?_)
    refine mj_b_callR (hE := fe_51_20) (hi := in_31) (h1 := g31 _ _) (hc := mj_cok_s rfl) (ha := rfl) (hr := rfl) ?_
    refine mj_b_callR (hE := fe_51_23) (hi := in_30) (h1 := g30 _ hs.1 hs.2.1 hs.2.2.1.1 hs.2.2.1.2) (hc := mj_cok_v rfl rfl (by assumption)) (ha := rfl) (hr := rfl) ?_
    refine mj_b_if1 (hE := fe_51_26) (kt := fun h26 => ?_) (kf := fun h26 => ?_)
    · simp only [mj_cnd, decide_eq_true_eq, decide_eq_false_iff_not, Bool.not_eq_true', Bool.not_eq_false', pz_0, Bool.not_eq_false, Bool.not_eq_true] at h26
      refine mj_b_rload_n (hE := fe_51_33) (hv := rfl) (k := ?_)
      refine mj_b_iload_n (hE := fe_51_34) (hv := rfl) (k := ?_)
      refine mj_b_callR (hE := fe_51_35) (hi := in_33) (h1 := g33 _ hs hh ht) (hc := mj_cok_v rfl rfl (by assumption)) (ha := rfl) (hr := rfl) ?_
      refine mj_b_if1 (hE := fe_51_38) (kt := fun h38 => ?_) (kf := fun h38 => ?_)
      · simp only [mj_cnd, decide_eq_true_eq, decide_eq_false_iff_not, Bool.not_eq_true', Bool.not_eq_false', pz_0, Bool.not_eq_false, Bool.not_eq_true] at h38
        refine mj_b_sipush (hE := fe_51_52) (k := ?_)
        exact mj_b_retI (hE := fe_51_55) (hi := in_51) (by first | (simp [c_mkR, pz, h8, h26, h38]; done) | (simp_all [c_mkR, pz]; done) | rfl)
      · simp only [mj_cnd, decide_eq_true_eq, decide_eq_false_iff_not, Bool.not_eq_true', Bool.not_eq_false', pz_0, Bool.not_eq_false, Bool.not_eq_true] at h38
        refine mj_b_rload_n (hE := fe_51_41) (hv := rfl) (k := ?_)
        refine mj_b_iload_n (hE := fe_51_42) (hv := rfl) (k := ?_)
        refine mj_b_callR (hE := fe_51_43) (hi := in_31) (h1 := g31 _ _) (hc := mj_cok_s rfl) (ha := rfl) (hr := rfl) ?_
        refine mj_b_callR (hE := fe_51_46) (hi := in_33) (h1 := g33 _ hs hh ht) (hc := mj_cok_v rfl rfl (by assumption)) (ha := rfl) (hr := rfl) ?_
        refine mj_b_if1 (hE := fe_51_49) (kt := fun h49 => ?_) (kf := fun h49 => ?_)
        · simp only [mj_cnd, decide_eq_true_eq, decide_eq_false_iff_not, Bool.not_eq_true', Bool.not_eq_false', pz_0, Bool.not_eq_false, Bool.not_eq_true] at h49
          refine mj_b_rload_n (hE := fe_51_56) (hv := rfl) (k := ?_)
          refine mj_b_getQ (hE := fe_51_57) (hM := by assumption) (hv := by assumption) (k := ?_)
          refine mj_b_callR (hE := fe_51_60) (hi := in_36) (h1 := g36f hs.1 hs.2.1 hs.2.2.1.1) (hc := mj_cok_v rfl rfl (by assumption)) (ha := rfl) (hr := rfl) ?_
          refine mj_b_if1 (hE := fe_51_63) (kt := fun h63 => ?_) (kf := fun h63 => ?_)
          · simp only [mj_cnd, decide_eq_true_eq, decide_eq_false_iff_not, Bool.not_eq_true', Bool.not_eq_false', pz_0, Bool.not_eq_false, Bool.not_eq_true] at h63
            refine mj_b_iconst (hE := fe_51_72) (k := ?_)
            exact mj_b_retI (hE := fe_51_73) (hi := in_51) (by first | (simp [c_mkR, pz, h8, h26, h38, h49, h63]; done) | (simp_all [c_mkR, pz]; done) | rfl)
          · simp only [mj_cnd, decide_eq_true_eq, decide_eq_false_iff_not, Bool.not_eq_true', Bool.not_eq_false', pz_0, Bool.not_eq_false, Bool.not_eq_true] at h63
            refine mj_b_sipush (hE := fe_51_66) (k := ?_)
            refine mj_b_goto (hE := fe_51_69) (k := ?_)
            exact mj_b_retI (hE := fe_51_73) (hi := in_51) (by first | (simp [c_mkR, pz, h8, h26, h38, h49, h63]; done) | (simp_all [c_mkR, pz]; done) | rfl)
        · simp only [mj_cnd, decide_eq_true_eq, decide_eq_false_iff_not, Bool.not_eq_true', Bool.not_eq_false', pz_0, Bool.not_eq_false, Bool.not_eq_true] at h49
          refine mj_b_sipush (hE := fe_51_52) (k := ?_)
          exact mj_b_retI (hE := fe_51_55) (hi := in_51) (by first | (simp [c_mkR, pz, h8, h26, h38, h49]; done) | (simp_all [c_mkR, pz]; done) | rfl)
    · simp only [mj_cnd, decide_eq_true_eq, decide_eq_false_iff_not, Bool.not_eq_true', Bool.not_eq_false', pz_0, Bool.not_eq_false, Bool.not_eq_true] at h26
      refine mj_b_sipush (hE := fe_51_29) (k := ?_)
      exact mj_b_retI (hE := fe_51_32) (hi := in_51) (by first | (simp [c_mkR, pz, h8, h26]; done) | (simp_all [c_mkR, pz]; done) | rfl)
  · simp only [mj_cnd, decide_eq_true_eq, decide_eq_false_iff_not, Bool.not_eq_true', Bool.not_eq_false', pz_0, Bool.not_eq_false, Bool.not_eq_true] at h8
    refine mj_b_sipush (hE := fe_51_11) (k := ?_)
    exact mj_b_retI (hE := fe_51_14) (hi := in_51) (by first | (simp [c_mkR, pz, h8]; done) | (simp_all [c_mkR, pz]; done) | rfl)
def c_delR (I : Nat → Nat → Int32) (b : Nat) (pi : Nat → Nat) (dp al : Nat → Bool) (nr nl nc : Nat) (p : Int32) : Int32 :=
  if p = 0 then 403 else if cs_has I b pi nr p = false then 404
  else if c_bar I b dp al nl nc p = true ∨ c_bar I b dp al nl nc (p / 8) = true then 423 else -1
set_option maxHeartbeats 1000000 in
/-- LockedTree.deleteRefusal -/
theorem g53 (p : Int32) (hs : c_st sn pi nr nl ex dp I R) (hh : c_hd nc al ng I R) (ht : c_top sn sx R) :
    mj_G pj_P 53 [.ref 1, .int p] (mz_SH L, I, R) (fun r => r = (some (.int (c_delR I sn pi dp al nr nl nc p)), (mz_SH L, I, R))) := by
  have h1 := sh_1 L
  have ht1 := ht.1
  have hS := sh_S L hs.1
  refine mj_enter in_53 (L := [.ref 1, .int p]) rfl ?_
  refine mj_b_iload_n (hE := fe_53_0) (hv := rfl) (k := ?_)
  refine mj_b_if1 (hE := fe_53_1) (kt := fun h1 => ?_) (kf := fun h1 => ?_)
  · simp only [mj_cnd, decide_eq_true_eq, decide_eq_false_iff_not, Bool.not_eq_true', Bool.not_eq_false', pz_0, Bool.not_eq_false, Bool.not_eq_true] at h1
    refine mj_b_rload_n (hE := fe_53_8) (hv := rfl) (k := ?_)
    refine mj_b_getQ (hE := fe_53_9) (hM := by assumption) (hv := by assumption) (k := ?_)
    refine mj_b_iload_n (hE := fe_53_12) (hv := rfl) (k := ?_)
    refine mj_b_callR (hE := fe_53_13) (hi := in_32) (h1 := g32 _ hs.1 hs.2.1 hs.2.2.1.1 hs.2.2.1.2) (hc := mj_cok_v rfl rfl (by assumption)) (ha := rfl) (hr := rfl) ?_
    refine mj_b_if1 (hE := fe_53_16) (kt := fun h16 => ?_) (kf := fun h16 => ?_)
    · simp only [mj_cnd, decide_eq_true_eq, decide_eq_false_iff_not, Bool.not_eq_true', Bool.not_eq_false', pz_0, Bool.not_eq_false, Bool.not_eq_true] at h16
      refine mj_b_rload_n (hE := fe_53_23) (hv := rfl) (k := ?_)
      refine mj_b_iload_n (hE := fe_53_24) (hv := rfl) (k := ?_)
      refine mj_b_callR (hE := fe_53_25) (hi := in_33) (h1 := g33 _ hs hh ht) (hc := mj_cok_v rfl rfl (by assumption)) (ha := rfl) (hr := rfl) ?_
      refine mj_b_if1 (hE := fe_53_28) (kt := fun h28 => ?_) (kf := fun h28 => ?_)
      · simp only [mj_cnd, decide_eq_true_eq, decide_eq_false_iff_not, Bool.not_eq_true', Bool.not_eq_false', pz_0, Bool.not_eq_false, Bool.not_eq_true] at h28
        refine mj_b_sipush (hE := fe_53_42) (k := ?_)
        refine mj_b_goto (hE := fe_53_45) (k := ?_)
        exact mj_b_retI (hE := fe_53_49) (hi := in_53) (by first | (simp [c_delR, pz, h1, h16, h28]; done) | (simp_all [c_delR, pz]; done) | rfl)
      · simp only [mj_cnd, decide_eq_true_eq, decide_eq_false_iff_not, Bool.not_eq_true', Bool.not_eq_false', pz_0, Bool.not_eq_false, Bool.not_eq_true] at h28
        refine mj_b_rload_n (hE := fe_53_31) (hv := rfl) (k := ?_)
        refine mj_b_iload_n (hE := fe_53_32) (hv := rfl) (k := ?_)
        refine mj_b_callR (hE := fe_53_33) (hi := in_31) (h1 := g31 _ _) (hc := mj_cok_s rfl) (ha := rfl) (hr := rfl) ?_
        refine mj_b_callR (hE := fe_53_36) (hi := in_33) (h1 := g33 _ hs hh ht) (hc := mj_cok_v rfl rfl (by assumption)) (ha := rfl) (hr := rfl) ?_
        refine mj_b_if1 (hE := fe_53_39) (kt := fun h39 => ?_) (kf := fun h39 => ?_)
        · simp only [mj_cnd, decide_eq_true_eq, decide_eq_false_iff_not, Bool.not_eq_true', Bool.not_eq_false', pz_0, Bool.not_eq_false, Bool.not_eq_true] at h39
          refine mj_b_iconst (hE := fe_53_48) (k := ?_)
          exact mj_b_retI (hE := fe_53_49) (hi := in_53) (by first | (simp [c_delR, pz, h1, h16, h28, h39]; done) | (simp_all [c_delR, pz]; done) | rfl)
        · simp only [mj_cnd, decide_eq_true_eq, decide_eq_false_iff_not, Bool.not_eq_true', Bool.not_eq_false', pz_0, Bool.not_eq_false, Bool.not_eq_true] at h39
          refine mj_b_sipush (hE := fe_53_42) (k := ?_)
          refine mj_b_goto (hE := fe_53_45) (k := ?_)
          exact mj_b_retI (hE := fe_53_49) (hi := in_53) (by first | (simp [c_delR, pz, h1, h16, h28, h39]; done) | (simp_all [c_delR, pz]; done) | rfl)
    · simp only [mj_cnd, decide_eq_true_eq, decide_eq_false_iff_not, Bool.not_eq_true', Bool.not_eq_false', pz_0, Bool.not_eq_false, Bool.not_eq_true] at h16
      refine mj_b_sipush (hE := fe_53_19) (k := ?_)
      exact mj_b_retI (hE := fe_53_22) (hi := in_53) (by first | (simp [c_delR, pz, h1, h16]; done) | (simp_all [c_delR, pz]; done) | rfl)
  · simp only [mj_cnd, decide_eq_true_eq, decide_eq_false_iff_not, Bool.not_eq_true', Bool.not_eq_false', pz_0, Bool.not_eq_false, Bool.not_eq_true] at h1
    refine mj_b_sipush (hE := fe_53_4) (k := ?_)
    exact mj_b_retI (hE := fe_53_7) (hi := in_53) (by first | (simp [c_delR, pz, h1]; done) | (simp_all [c_delR, pz]; done) | rfl)
def c_patR (I : Nat → Nat → Int32) (b : Nat) (pi : Nat → Nat) (dp al : Nat → Bool) (nr nl nc : Nat) (p : Int32) : Int32 :=
  if cs_has I b pi nr p = false then 404 else if c_bar I b dp al nl nc p = true then 423 else -1
set_option maxHeartbeats 1000000 in
/-- LockedTree.patchRefusal -/
theorem g71 (p : Int32) (hs : c_st sn pi nr nl ex dp I R) (hh : c_hd nc al ng I R) (ht : c_top sn sx R) :
    mj_G pj_P 71 [.ref 1, .int p] (mz_SH L, I, R) (fun r => r = (some (.int (c_patR I sn pi dp al nr nl nc p)), (mz_SH L, I, R))) := by
  have h1 := sh_1 L
  have ht1 := ht.1
  have hS := sh_S L hs.1
  refine mj_enter in_71 (L := [.ref 1, .int p]) rfl ?_
  refine mj_b_rload_n (hE := fe_71_0) (hv := rfl) (k := ?_)
  refine mj_b_getQ (hE := fe_71_1) (hM := by assumption) (hv := by assumption) (k := ?_)
  refine mj_b_iload_n (hE := fe_71_4) (hv := rfl) (k := ?_)
  refine mj_b_callR (hE := fe_71_5) (hi := in_32) (h1 := g32 _ hs.1 hs.2.1 hs.2.2.1.1 hs.2.2.1.2) (hc := mj_cok_v rfl rfl (by assumption)) (ha := rfl) (hr := rfl) ?_
  refine mj_b_if1 (hE := fe_71_8) (kt := fun h8 => ?_) (kf := fun h8 => ?_)
  · simp only [mj_cnd, decide_eq_true_eq, decide_eq_false_iff_not, Bool.not_eq_true', Bool.not_eq_false', pz_0, Bool.not_eq_false, Bool.not_eq_true] at h8
    refine mj_b_rload_n (hE := fe_71_15) (hv := rfl) (k := ?_)
    refine mj_b_iload_n (hE := fe_71_16) (hv := rfl) (k := ?_)
    refine mj_b_callR (hE := fe_71_17) (hi := in_33) (h1 := g33 _ hs hh ht) (hc := mj_cok_v rfl rfl (by assumption)) (ha := rfl) (hr := rfl) ?_
    refine mj_b_if1 (hE := fe_71_20) (kt := fun h20 => ?_) (kf := fun h20 => ?_)
    · simp only [mj_cnd, decide_eq_true_eq, decide_eq_false_iff_not, Bool.not_eq_true', Bool.not_eq_false', pz_0, Bool.not_eq_false, Bool.not_eq_true] at h20
      refine mj_b_iconst (hE := fe_71_29) (k := ?_)
      exact mj_b_retI (hE := fe_71_30) (hi := in_71) (by first | (simp [c_patR, pz, h8, h20]; done) | (simp_all [c_patR, pz]; done) | rfl)
    · simp only [mj_cnd, decide_eq_true_eq, decide_eq_false_iff_not, Bool.not_eq_true', Bool.not_eq_false', pz_0, Bool.not_eq_false, Bool.not_eq_true] at h20
      refine mj_b_sipush (hE := fe_71_23) (k := ?_)
      refine mj_b_goto (hE := fe_71_26) (k := ?_)
      exact mj_b_retI (hE := fe_71_30) (hi := in_71) (by first | (simp [c_patR, pz, h8, h20]; done) | (simp_all [c_patR, pz]; done) | rfl)
  · simp only [mj_cnd, decide_eq_true_eq, decide_eq_false_iff_not, Bool.not_eq_true', Bool.not_eq_false', pz_0, Bool.not_eq_false, Bool.not_eq_true] at h8
    refine mj_b_sipush (hE := fe_71_11) (k := ?_)
    exact mj_b_retI (hE := fe_71_14) (hi := in_71) (by first | (simp [c_patR, pz, h8]; done) | (simp_all [c_patR, pz]; done) | rfl)
def c_tgtR (I : Nat → Nat → Int32) (b : Nat) (pi : Nat → Nat) (nr : Nat) (p q : Int32) (ov : Bool) : Int32 :=
  if q = 0 ∨ pf_within q p = true ∨ pf_within p q = true then 403 else if cs_has I b pi nr p = false then 404
  else if cs_coll I b pi nr (q / 8) = false then 409 else if cs_has I b pi nr q = true ∧ ov = false then 412 else -1
set_option maxHeartbeats 1000000 in
/-- LockedTree.targetRefusal -/
theorem g59 (p q : Int32) (ov : Bool) (hs : c_st sn pi nr nl ex dp I R) (ht : c_top sn sx R) :
    mj_G pj_P 59 [.ref 1, .int p, .int q, .int (pz ov)] (mz_SH L, I, R) (fun r => r = (some (.int (c_tgtR I sn pi nr p q ov)), (mz_SH L, I, R))) := by
  have h1 := sh_1 L
  have ht1 := ht.1
  have hS := sh_S L hs.1
  refine mj_enter in_59 (L := [.ref 1, .int p, .int q, .int (pz ov)]) rfl ?_
  refine mj_b_iload_n (hE := fe_59_0) (hv := rfl) (k := ?_)
  refine mj_b_if1 (hE := fe_59_1) (kt := fun h1 => ?_) (kf := fun h1 => ?_)
  · simp only [mj_cnd, decide_eq_true_eq, decide_eq_false_iff_not, Bool.not_eq_true', Bool.not_eq_false', pz_0, Bool.not_eq_false, Bool.not_eq_true] at h1
    refine mj_b_sipush (hE := fe_59_20) (k := ?_)
    exact mj_b_retI (hE := fe_59_23) (hi := in_59) (by first | (simp [c_tgtR, pz, h1]; done) | (simp_all [c_tgtR, pz]; done) | rfl)
  · simp only [mj_cnd, decide_eq_true_eq, decide_eq_false_iff_not, Bool.not_eq_true', Bool.not_eq_false', pz_0, Bool.not_eq_false, Bool.not_eq_true] at h1
    refine mj_b_iload_n (hE := fe_59_4) (hv := rfl) (k := ?_)
    refine mj_b_iload_n (hE := fe_59_5) (hv := rfl) (k := ?_)
    refine mj_b_callR (hE := fe_59_6) (hi := in_55) (h1 := g55 _ _ _) (hc := mj_cok_s rfl) (ha := rfl) (hr := rfl) ?_
    refine mj_b_if1 (hE := fe_59_9) (kt := fun h9 => ?_) (kf := fun h9 => ?_)
    · simp only [mj_cnd, decide_eq_true_eq, decide_eq_false_iff_not, Bool.not_eq_true', Bool.not_eq_false', pz_0, Bool.not_eq_false, Bool.not_eq_true] at h9
      refine mj_b_sipush (hE := fe_59_20) (k := ?_)
      exact mj_b_retI (hE := fe_59_23) (hi := in_59) (by first | (simp [c_tgtR, pz, h1, h9]; done) | (simp_all [c_tgtR, pz]; done) | rfl)
    · simp only [mj_cnd, decide_eq_true_eq, decide_eq_false_iff_not, Bool.not_eq_true', Bool.not_eq_false', pz_0, Bool.not_eq_false, Bool.not_eq_true] at h9
      refine mj_b_iload_n (hE := fe_59_12) (hv := rfl) (k := ?_)
      refine mj_b_iload_n (hE := fe_59_13) (hv := rfl) (k := ?_)
      refine mj_b_callR (hE := fe_59_14) (hi := in_55) (h1 := g55 _ _ _) (hc := mj_cok_s rfl) (ha := rfl) (hr := rfl) ?_
      refine mj_b_if1 (hE := fe_59_17) (kt := fun h17 => ?_) (kf := fun h17 => ?_)
      · simp only [mj_cnd, decide_eq_true_eq, decide_eq_false_iff_not, Bool.not_eq_true', Bool.not_eq_false', pz_0, Bool.not_eq_false, Bool.not_eq_true] at h17
        refine mj_b_rload_n (hE := fe_59_24) (hv := rfl) (k := ?_)
        refine mj_b_getQ (hE := fe_59_25) (hM := by assumption) (hv := by assumption) (k := ?_)
        refine mj_b_iload_n (hE := fe_59_28) (hv := rfl) (k := ?_)
        refine mj_b_callR (hE := fe_59_29) (hi := in_32) (h1 := g32 _ hs.1 hs.2.1 hs.2.2.1.1 hs.2.2.1.2) (hc := mj_cok_v rfl rfl (by assumption)) (ha := rfl) (hr := rfl) ?_
        refine mj_b_if1 (hE := fe_59_32) (kt := fun h32 => ?_) (kf := fun h32 => ?_)
        · simp only [mj_cnd, decide_eq_true_eq, decide_eq_false_iff_not, Bool.not_eq_true', Bool.not_eq_false', pz_0, Bool.not_eq_false, Bool.not_eq_true] at h32
          refine mj_b_rload_n (hE := fe_59_39) (hv := rfl) (k := ?_)
          refine mj_b_getQ (hE := fe_59_40) (hM := by assumption) (hv := by assumption) (k := ?_)
          refine mj_b_iload_n (hE := fe_59_43) (hv := rfl) (k := ?_)
          refine mj_b_callR (hE := fe_59_44) (hi := in_31) (h1 := g31 _ _) (hc := mj_cok_s rfl) (ha := rfl) (hr := rfl) ?_
          refine mj_b_callR (hE := fe_59_47) (hi := in_30) (h1 := g30 _ hs.1 hs.2.1 hs.2.2.1.1 hs.2.2.1.2) (hc := mj_cok_v rfl rfl (by assumption)) (ha := rfl) (hr := rfl) ?_
          refine mj_b_if1 (hE := fe_59_50) (kt := fun h50 => ?_) (kf := fun h50 => ?_)
          · simp only [mj_cnd, decide_eq_true_eq, decide_eq_false_iff_not, Bool.not_eq_true', Bool.not_eq_false', pz_0, Bool.not_eq_false, Bool.not_eq_true] at h50
            refine mj_b_rload_n (hE := fe_59_57) (hv := rfl) (k := ?_)
            refine mj_b_getQ (hE := fe_59_58) (hM := by assumption) (hv := by assumption) (k := ?_)
            refine mj_b_iload_n (hE := fe_59_61) (hv := rfl) (k := ?_)
            refine mj_b_callR (hE := fe_59_62) (hi := in_32) (h1 := g32 _ hs.1 hs.2.1 hs.2.2.1.1 hs.2.2.1.2) (hc := mj_cok_v rfl rfl (by assumption)) (ha := rfl) (hr := rfl) ?_
            refine mj_b_if1 (hE := fe_59_65) (kt := fun h65 => ?_) (kf := fun h65 => ?_)
            · simp only [mj_cnd, decide_eq_true_eq, decide_eq_false_iff_not, Bool.not_eq_true', Bool.not_eq_false', pz_0, Bool.not_eq_false, Bool.not_eq_true] at h65
              refine mj_b_iconst (hE := fe_59_78) (k := ?_)
              exact mj_b_retI (hE := fe_59_79) (hi := in_59) (by first | (simp [c_tgtR, pz, h1, h9, h17, h32, h50, h65]; done) | (simp_all [c_tgtR, pz]; done) | rfl)
            · simp only [mj_cnd, decide_eq_true_eq, decide_eq_false_iff_not, Bool.not_eq_true', Bool.not_eq_false', pz_0, Bool.not_eq_false, Bool.not_eq_true] at h65
              refine mj_b_iload_n (hE := fe_59_68) (hv := rfl) (k := ?_)
              refine mj_b_if1 (hE := fe_59_69) (kt := fun h69 => ?_) (kf := fun h69 => ?_)
              · simp only [mj_cnd, decide_eq_true_eq, decide_eq_false_iff_not, Bool.not_eq_true', Bool.not_eq_false', pz_0, Bool.not_eq_false, Bool.not_eq_true] at h69
                refine mj_b_iconst (hE := fe_59_78) (k := ?_)
                exact mj_b_retI (hE := fe_59_79) (hi := in_59) (by first | (simp [c_tgtR, pz, h1, h9, h17, h32, h50, h65, h69]; done) | (simp_all [c_tgtR, pz]; done) | rfl)
              · simp only [mj_cnd, decide_eq_true_eq, decide_eq_false_iff_not, Bool.not_eq_true', Bool.not_eq_false', pz_0, Bool.not_eq_false, Bool.not_eq_true] at h69
                refine mj_b_sipush (hE := fe_59_72) (k := ?_)
                refine mj_b_goto (hE := fe_59_75) (k := ?_)
                exact mj_b_retI (hE := fe_59_79) (hi := in_59) (by first | (simp [c_tgtR, pz, h1, h9, h17, h32, h50, h65, h69]; done) | (simp_all [c_tgtR, pz]; done) | rfl)
          · simp only [mj_cnd, decide_eq_true_eq, decide_eq_false_iff_not, Bool.not_eq_true', Bool.not_eq_false', pz_0, Bool.not_eq_false, Bool.not_eq_true] at h50
            refine mj_b_sipush (hE := fe_59_53) (k := ?_)
            exact mj_b_retI (hE := fe_59_56) (hi := in_59) (by first | (simp [c_tgtR, pz, h1, h9, h17, h32, h50]; done) | (simp_all [c_tgtR, pz]; done) | rfl)
        · simp only [mj_cnd, decide_eq_true_eq, decide_eq_false_iff_not, Bool.not_eq_true', Bool.not_eq_false', pz_0, Bool.not_eq_false, Bool.not_eq_true] at h32
          refine mj_b_sipush (hE := fe_59_35) (k := ?_)
          exact mj_b_retI (hE := fe_59_38) (hi := in_59) (by first | (simp [c_tgtR, pz, h1, h9, h17, h32]; done) | (simp_all [c_tgtR, pz]; done) | rfl)
      · simp only [mj_cnd, decide_eq_true_eq, decide_eq_false_iff_not, Bool.not_eq_true', Bool.not_eq_false', pz_0, Bool.not_eq_false, Bool.not_eq_true] at h17
        refine mj_b_sipush (hE := fe_59_20) (k := ?_)
        exact mj_b_retI (hE := fe_59_23) (hi := in_59) (by first | (simp [c_tgtR, pz, h1, h9, h17]; done) | (simp_all [c_tgtR, pz]; done) | rfl)
/-- some row stands below r and is barred -/
def c_rowP (I : Nat → Nat → Int32) (b : Nat) (pi : Nat → Nat) (i : Nat) : Int32 := I (cs_row b pi i) 0
def c_tbf (I : Nat → Nat → Int32) (b : Nat) (pi : Nat → Nat) (dp al : Nat → Bool) (nl nc : Nat) (r : Int32) (i : Nat) : Bool := pf_below (c_rowP I b pi i) r && c_bar I b dp al nl nc (c_rowP I b pi i)
def c_tbar (I : Nat → Nat → Int32) (b : Nat) (pi : Nat → Nat) (dp al : Nat → Bool) (nr nl nc : Nat) (r : Int32) : Bool := c_bar I b dp al nl nc (r / 8) || (c_bar I b dp al nl nc r || pa_any (c_tbf I b pi dp al nl nc r) 0 nr)
set_option maxHeartbeats 1000000 in
theorem l61 {r : Int32} (hs : c_st sn pi nr nl ex dp I R) (hh : c_hd nc al ng I R) (ht : c_top sn sx R) :
    ∀ (k i : Nat) (v3 : Value), i + k = nr → mj_T pj_P 61 23 [.ref 1, .int r, .int (nI i), v3] [] (mz_SH L, I, R) (fun s => s = (some (.int (pz (pa_any (c_tbf I sn pi dp al nl nc r) i k))), (mz_SH L, I, R))) := by
  have hs0 := hs
  have ht0 := ht
  obtain ⟨hb, hok, ⟨hn1, hn2⟩, ⟨hl1, hl2⟩, hlk⟩ := hs
  obtain ⟨ht1, ht2, ht3, ht4⟩ := ht
  have hS := sh_S L hb
  have hA := sh_A L hb
  have h1 := sh_1 L
  have hR := hok.1
  intro k
  induction k with
  | zero =>
    intro i v3 hi
    have hin : i = nr := by omega
    subst hin
    refine mj_b_iload_n (hE := fe_61_23) (hv := rfl) (k := ?_)
    refine mj_b_rload_n (hE := fe_61_24) (hv := rfl) (k := ?_)
    refine mj_b_getQ (hE := fe_61_25) (hM := by assumption) (hv := by assumption) (k := ?_)
    refine mj_b_getV (hE := fe_61_28) (hM := by assumption) (hv := by assumption) (k := ?_)
    refine mj_b_if2 (hE := fe_61_31) (kt := fun h => ?_) (kf := fun h => ?_)
    · refine mj_b_iconst (hE := fe_61_71) (k := ?_)
      exact mj_b_retZ (hE := fe_61_72) (hi := in_61) (Or.inl rfl) rfl
    · simp [mj_cnd] at h
  | succ k ih =>
    intro i v3 hi
    have hi13 : i < 13 := by omega
    obtain ⟨hr1, hr2⟩ := hok.2.2.1 i hi13
    have hC := sh_R L hb hr2
    have hp0 : I (sn + 3 + 2 * pi i) 0 = c_rowP I sn pi i := rfl
    have hnx : ∀ Q v, mj_T pj_P 61 23 [.ref 1, .int r, .int (nI (i + 1)), v] [] (mz_SH L, I, R) Q → mj_T pj_P 61 65 [.ref 1, .int r, .int (nI i), v] [] (mz_SH L, I, R) Q := by
      intro Q v hQ
      refine mj_b_iinc (hE := fe_61_65) (hv := rfl) (k := ?_)
      refine mj_b_goto (hE := fe_61_68) (k := ?_)
      exact (show mj_T pj_P 61 23 [.ref 1, .int r, .int (nI i + 1), v] [] (mz_SH L, I, R) Q from (nI_succ i) ▸ hQ)
    refine mj_b_iload_n (hE := fe_61_23) (hv := rfl) (k := ?_)
    refine mj_b_rload_n (hE := fe_61_24) (hv := rfl) (k := ?_)
    refine mj_b_getQ (hE := fe_61_25) (hM := by assumption) (hv := by assumption) (k := ?_)
    refine mj_b_getV (hE := fe_61_28) (hM := by assumption) (hv := by assumption) (k := ?_)
    refine mj_b_if2 (hE := fe_61_31) (kt := fun h => ?_) (kf := fun h => ?_)
    · simp only [mj_cnd, decide_eq_true_eq] at h
      exact absurd h (nI_ge (by omega) (by omega))
    · refine mj_b_rload_n (hE := fe_61_34) (hv := rfl) (k := ?_)
      refine mj_b_getQ (hE := fe_61_35) (hM := by assumption) (hv := by assumption) (k := ?_)
      refine mj_b_getQ (hE := fe_61_38) (hM := by assumption) (hv := by assumption) (k := ?_)
      refine mj_b_iload_n (hE := fe_61_41) (hv := rfl) (k := ?_)
      refine mj_b_aaldQ (hE := fe_61_42) (hM := by assumption) (ht := by decide) (hj := rfl) (hc := by omega) (hn := by decide) (hv := by assumption) (k := ?_)
      refine mj_b_getV (hE := fe_61_43) (hM := by assumption) (hv := by assumption) (k := ?_)
      refine mj_b_istore_n (hE := fe_61_46) (hx := Nat.le_of_ble_eq_true rfl) (k := ?_)
      refine mj_b_iload_n (hE := fe_61_47) (hv := rfl) (k := ?_)
      refine mj_b_iload_n (hE := fe_61_48) (hv := rfl) (k := ?_)
      refine mj_b_callR (hE := fe_61_49) (hi := in_26) (h1 := g26 _ _ _) (hc := mj_cok_s rfl) (ha := rfl) (hr := rfl) ?_
      refine mj_b_if1 (hE := fe_61_52) (kt := fun h52 => ?_) (kf := fun h52 => ?_)
      · simp only [mj_cnd, decide_eq_true_eq, decide_eq_false_iff_not, Bool.not_eq_true', Bool.not_eq_false', pz_0, Bool.not_eq_false, Bool.not_eq_true] at h52
        exact hnx _ _ ((ih (i + 1) _ (by omega)).mono (fun s hs => by rw [hs]; simp [pa_any, c_tbf, h52]))
      · simp only [mj_cnd, decide_eq_true_eq, decide_eq_false_iff_not, Bool.not_eq_true', Bool.not_eq_false', pz_0, Bool.not_eq_false, Bool.not_eq_true] at h52
        refine mj_b_rload_n (hE := fe_61_55) (hv := rfl) (k := ?_)
        refine mj_b_iload_n (hE := fe_61_56) (hv := rfl) (k := ?_)
        refine mj_b_callR (hE := fe_61_57) (hi := in_33) (h1 := g33 _ hs0 hh ht0) (hc := mj_cok_v rfl rfl (by assumption)) (ha := rfl) (hr := rfl) ?_
        refine mj_b_if1 (hE := fe_61_60) (kt := fun h60 => ?_) (kf := fun h60 => ?_)
        · simp only [mj_cnd, decide_eq_true_eq, decide_eq_false_iff_not, Bool.not_eq_true', Bool.not_eq_false', pz_0, Bool.not_eq_false, Bool.not_eq_true] at h60
          exact hnx _ _ ((ih (i + 1) _ (by omega)).mono (fun s hs => by rw [hs]; simp [pa_any, c_tbf, h52, h60]))
        · simp only [mj_cnd, decide_eq_true_eq, decide_eq_false_iff_not, Bool.not_eq_true', Bool.not_eq_false', pz_0, Bool.not_eq_false, Bool.not_eq_true] at h60
          refine mj_b_iconst (hE := fe_61_63) (k := ?_)
          exact mj_b_retZ (hE := fe_61_64) (hi := in_61) (by first | decide | exact pz_01 _) (by first | (simp [pa_any, c_tbf, pz, h52, h60]; done) | (simp_all [pa_any, c_tbf, pz]; done) | rfl)
/-- LockedTree.isTreeBarred -/
theorem g61 (r : Int32) (hs : c_st sn pi nr nl ex dp I R) (hh : c_hd nc al ng I R) (ht : c_top sn sx R) :
    mj_G pj_P 61 [.ref 1, .int r] (mz_SH L, I, R) (fun s => s = (some (.int (pz (c_tbar I sn pi dp al nr nl nc r))), (mz_SH L, I, R))) := by
  have h1 := sh_1 L
  refine mj_enter in_61 (L := [.ref 1, .int r, .retAddr 0, .retAddr 0]) rfl ?_
  refine mj_b_rload_n (hE := fe_61_0) (hv := rfl) (k := ?_)
  refine mj_b_iload_n (hE := fe_61_1) (hv := rfl) (k := ?_)
  refine mj_b_callR (hE := fe_61_2) (hi := in_31) (h1 := g31 _ _) (hc := mj_cok_s rfl) (ha := rfl) (hr := rfl) ?_
  refine mj_b_callR (hE := fe_61_5) (hi := in_33) (h1 := g33 _ hs hh ht) (hc := mj_cok_v rfl rfl (by assumption)) (ha := rfl) (hr := rfl) ?_
  refine mj_b_if1 (hE := fe_61_8) (kt := fun h8 => ?_) (kf := fun h8 => ?_)
  · simp only [mj_cnd, decide_eq_true_eq, decide_eq_false_iff_not, Bool.not_eq_true', Bool.not_eq_false', pz_0, Bool.not_eq_false, Bool.not_eq_true] at h8
    refine mj_b_iconst (hE := fe_61_19) (k := ?_)
    exact mj_b_retZ (hE := fe_61_20) (hi := in_61) (by first | decide | exact pz_01 _) (by first | (simp [c_tbar, pz, h8]; done) | (simp_all [c_tbar, pz]; done) | rfl)
  · simp only [mj_cnd, decide_eq_true_eq, decide_eq_false_iff_not, Bool.not_eq_true', Bool.not_eq_false', pz_0, Bool.not_eq_false, Bool.not_eq_true] at h8
    refine mj_b_rload_n (hE := fe_61_11) (hv := rfl) (k := ?_)
    refine mj_b_iload_n (hE := fe_61_12) (hv := rfl) (k := ?_)
    refine mj_b_callR (hE := fe_61_13) (hi := in_33) (h1 := g33 _ hs hh ht) (hc := mj_cok_v rfl rfl (by assumption)) (ha := rfl) (hr := rfl) ?_
    refine mj_b_if1 (hE := fe_61_16) (kt := fun h16 => ?_) (kf := fun h16 => ?_)
    · simp only [mj_cnd, decide_eq_true_eq, decide_eq_false_iff_not, Bool.not_eq_true', Bool.not_eq_false', pz_0, Bool.not_eq_false, Bool.not_eq_true] at h16
      refine mj_b_iconst (hE := fe_61_21) (k := ?_)
      refine mj_b_istore_n (hE := fe_61_22) (hx := Nat.le_of_ble_eq_true rfl) (k := ?_)
      exact (l61 hs hh ht nr 0 _ (by omega)).mono (fun s hs => by rw [hs]; simp [c_tbar, h8, h16])
    · simp only [mj_cnd, decide_eq_true_eq, decide_eq_false_iff_not, Bool.not_eq_true', Bool.not_eq_false', pz_0, Bool.not_eq_false, Bool.not_eq_true] at h16
      refine mj_b_iconst (hE := fe_61_19) (k := ?_)
      exact mj_b_retZ (hE := fe_61_20) (hi := in_61) (by first | decide | exact pz_01 _) (by first | (simp [c_tbar, pz, h8, h16]; done) | (simp_all [c_tbar, pz]; done) | rfl)
/-- rows within r, from i on, k of them -/
def c_cnt (f : Nat → Bool) : Nat → Nat → Int32
  | _, 0 => 0
  | i, k + 1 => (if f i = true then 1 else 0) + c_cnt f (i + 1) k
set_option maxHeartbeats 1000000 in
theorem l65 {r : Int32} (hs : c_st sn pi nr nl ex dp I R) :
    ∀ (k i : Nat) (c : Int32), i + k = nr → mj_T pj_P 65 4 [.ref sn, .int r, .int c, .int (nI i)] [] (mz_SH L, I, R) (fun s => s = (some (.int (c + c_cnt (fun i => pf_within (c_rowP I sn pi i) r) i k)), (mz_SH L, I, R))) := by
  obtain ⟨hb, hok, ⟨hn1, hn2⟩, ⟨hl1, hl2⟩, hlk⟩ := hs
  have hS := sh_S L hb
  have hA := sh_A L hb
  have hR := hok.1
  intro k
  induction k with
  | zero =>
    intro i c hi
    have hin : i = nr := by omega
    subst hin
    refine mj_b_iload_n (hE := fe_65_4) (hv := rfl) (k := ?_)
    refine mj_b_rload_n (hE := fe_65_5) (hv := rfl) (k := ?_)
    refine mj_b_getV (hE := fe_65_6) (hM := by assumption) (hv := by assumption) (k := ?_)
    refine mj_b_if2 (hE := fe_65_9) (kt := fun h => ?_) (kf := fun h => ?_)
    · refine mj_b_iload_n (hE := fe_65_37) (hv := rfl) (k := ?_)
      exact mj_b_retI (hE := fe_65_38) (hi := in_65) (by simp [c_cnt])
    · simp [mj_cnd] at h
  | succ k ih =>
    intro i c hi
    have hi13 : i < 13 := by omega
    obtain ⟨hr1, hr2⟩ := hok.2.2.1 i hi13
    have hC := sh_R L hb hr2
    have hp0 : I (sn + 3 + 2 * pi i) 0 = c_rowP I sn pi i := rfl
    have hnx : ∀ Q v, mj_T pj_P 65 4 [.ref sn, .int r, v, .int (nI (i + 1))] [] (mz_SH L, I, R) Q → mj_T pj_P 65 31 [.ref sn, .int r, v, .int (nI i)] [] (mz_SH L, I, R) Q := by
      intro Q v hQ
      refine mj_b_iinc (hE := fe_65_31) (hv := rfl) (k := ?_)
      refine mj_b_goto (hE := fe_65_34) (k := ?_)
      exact (show mj_T pj_P 65 4 [.ref sn, .int r, v, .int (nI i + 1)] [] (mz_SH L, I, R) Q from (nI_succ i) ▸ hQ)
    refine mj_b_iload_n (hE := fe_65_4) (hv := rfl) (k := ?_)
    refine mj_b_rload_n (hE := fe_65_5) (hv := rfl) (k := ?_)
    refine mj_b_getV (hE := fe_65_6) (hM := by assumption) (hv := by assumption) (k := ?_)
    refine mj_b_if2 (hE := fe_65_9) (kt := fun h => ?_) (kf := fun h => ?_)
    · simp only [mj_cnd, decide_eq_true_eq] at h
      exact absurd h (nI_ge (by omega) (by omega))
    · refine mj_b_rload_n (hE := fe_65_12) (hv := rfl) (k := ?_)
      refine mj_b_getQ (hE := fe_65_13) (hM := by assumption) (hv := by assumption) (k := ?_)
      refine mj_b_iload_n (hE := fe_65_16) (hv := rfl) (k := ?_)
      refine mj_b_aaldQ (hE := fe_65_17) (hM := by assumption) (ht := by decide) (hj := rfl) (hc := by omega) (hn := by decide) (hv := by assumption) (k := ?_)
      refine mj_b_getV (hE := fe_65_18) (hM := by assumption) (hv := by assumption) (k := ?_)
      refine mj_b_iload_n (hE := fe_65_21) (hv := rfl) (k := ?_)
      refine mj_b_callR (hE := fe_65_22) (hi := in_55) (h1 := g55 _ _ _) (hc := mj_cok_s rfl) (ha := rfl) (hr := rfl) ?_
      refine mj_b_if1 (hE := fe_65_25) (kt := fun h25 => ?_) (kf := fun h25 => ?_)
      · simp only [mj_cnd, decide_eq_true_eq, decide_eq_false_iff_not, Bool.not_eq_true', Bool.not_eq_false', pz_0, Bool.not_eq_false, Bool.not_eq_true] at h25
        exact hnx _ _ ((ih (i + 1) _ (by omega)).mono (fun s hs => by rw [hs]; simp [c_cnt, h25, Int32.add_assoc]))
      · simp only [mj_cnd, decide_eq_true_eq, decide_eq_false_iff_not, Bool.not_eq_true', Bool.not_eq_false', pz_0, Bool.not_eq_false, Bool.not_eq_true] at h25
        refine mj_b_iinc (hE := fe_65_28) (hv := rfl) (k := ?_)
        exact hnx _ _ ((ih (i + 1) _ (by omega)).mono (fun s hs => by rw [hs]; simp [c_cnt, h25, Int32.add_assoc]))
/-- Store.countWithin -/
theorem g65 (r : Int32) (hs : c_st sn pi nr nl ex dp I R) :
    mj_G pj_P 65 [.ref sn, .int r] (mz_SH L, I, R) (fun s => s = (some (.int (c_cnt (fun i => pf_within (c_rowP I sn pi i) r) 0 nr)), (mz_SH L, I, R))) := by
  refine mj_enter in_65 (L := [.ref sn, .int r, .retAddr 0, .retAddr 0]) rfl ?_
  refine mj_b_iconst (hE := fe_65_0) (k := ?_)
  refine mj_b_istore_n (hE := fe_65_1) (hx := Nat.le_of_ble_eq_true rfl) (k := ?_)
  refine mj_b_iconst (hE := fe_65_2) (k := ?_)
  refine mj_b_istore_n (hE := fe_65_3) (hx := Nat.le_of_ble_eq_true rfl) (k := ?_)
  exact (l65 hs nr 0 0 (by omega)).mono (fun s hs => by rw [hs]; simp)
end RF
