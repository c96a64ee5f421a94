/-! ===== the model: where rows come to stand; the way of copy and move ===== -/
section NJ
variable {L n : Nat} {S Sx : ty_st} {H : ty_hd} {rs : List ty_rw} {U : ty_st} {ts hs ms : List Int32} {f w : Int32} {I I' I0 I1 : Nat → Nat → Int32} {R : Nat → Nat → Option Nat} {Q : Option Value × mj_H → Prop} {z : Int32 × Int32}
set_option maxHeartbeats 2000000 in
theorem l123 {M : mj_H} {r q : Int32} {pn : Nat} (hp0 : 0 < pn) : ∀ (k c t s m : Nat), c + k < 5 → t < 8 ^ k → pn * 8 ^ k + t < 2 ^ 31 → mj_T pj_P 123 11 [.int r, .int (nI pn), .int q, .int (nI m), .int (nI s), .int (nI (pn * 8 ^ k + t)), .int (nI c)] [] M (fun x => x = (some (.int (q * nI (s * 8 ^ k) + nI (m + t * s))), M)) := by
  intro k
  induction k with
  | zero =>
    intro c t s m hc ht h31
    have ht0 : t = 0 := by simpa using ht
    subst ht0
    simp only [Nat.pow_zero, Nat.mul_one, Nat.add_zero, Nat.zero_mul] at *
    have fin : ∀ Lc2 : List Value, Lc2 = [.int r, .int (nI pn), .int q, .int (nI m), .int (nI s), .int (nI pn), .int (nI c)] → mj_T pj_P 123 54 Lc2 [] M (fun x => x = (some (.int (q * nI s + nI m)), M)) := by
      intro Lc2 h
      subst h
      refine mj_b_iload_n (hE := fe_123_54) (hv := rfl) (k := ?_)
      refine mj_b_iload (hE := fe_123_55) (hv := rfl) (k := ?_)
      refine mj_b_imul (hE := fe_123_57) (k := ?_)
      refine mj_b_iload_n (hE := fe_123_58) (hv := rfl) (k := ?_)
      refine mj_b_iadd (hE := fe_123_59) (k := ?_)
      exact mj_b_retI (hE := fe_123_60) (hi := in_123) rfl
    refine mj_b_iload (hE := fe_123_11) (hv := rfl) (k := ?_)
    refine mj_b_iconst (hE := fe_123_13) (k := ?_)
    refine mj_b_if2 (hE := fe_123_14) (kt := fun g => ?_) (kf := fun g => ?_)
    · exact fin _ rfl
    · refine mj_b_iload (hE := fe_123_17) (hv := rfl) (k := ?_)
      refine mj_b_iload_n (hE := fe_123_19) (hv := rfl) (k := ?_)
      refine mj_b_if2 (hE := fe_123_20) (kt := fun g2 => ?_) (kf := fun g2 => ?_)
      · exact fin _ rfl
      · exact absurd rfl (of_decide_eq_false g2)
  | succ k ih =>
    intro c t s m hc ht h31
    have hk := Nat.pow_pos (n := k) (show 0 < 8 by omega)
    have hk1 : pn * 8 ^ (k + 1) = 8 * (pn * 8 ^ k) := by rw [Nat.pow_succ, Nat.mul_comm (8 ^ k) 8, Nat.mul_left_comm]
    have hpk : pn ≤ pn * 8 ^ k := Nat.le_mul_of_pos_right pn hk
    have hd : (pn * 8 ^ (k + 1) + t) / 8 = pn * 8 ^ k + t / 8 := by omega
    have hmd : (pn * 8 ^ (k + 1) + t) % 8 = t % 8 := by omega
    have h8 := nI_mod8 h31
    rw [hmd] at h8
    have h9 := nI_div8 h31
    rw [hd] at h9
    refine mj_b_iload (hE := fe_123_11) (hv := rfl) (k := ?_)
    refine mj_b_iconst (hE := fe_123_13) (k := ?_)
    refine mj_b_if2 (hE := fe_123_14) (kt := fun g => ?_) (kf := fun g => ?_)
    · simp only [mj_cnd, decide_eq_true_eq] at g
      exact absurd g (by rw [show (5 : Int32) = nI 5 from rfl, nI_le_iff (by omega) (by omega)]; omega)
    · refine mj_b_iload (hE := fe_123_17) (hv := rfl) (k := ?_)
      refine mj_b_iload_n (hE := fe_123_19) (hv := rfl) (k := ?_)
      refine mj_b_if2 (hE := fe_123_20) (kt := fun g2 => ?_) (kf := fun g2 => ?_)
      · simp only [mj_cnd, decide_eq_true_eq] at g2
        have := nI_inj h31 (by omega) g2
        omega
      · refine mj_b_iload_n (hE := fe_123_23) (hv := rfl) (k := ?_)
        refine mj_b_iload (hE := fe_123_24) (hv := rfl) (k := ?_)
        refine mj_b_bipush (hE := fe_123_26) (k := ?_)
        refine mj_b_irem (hE := fe_123_28) (hb := by decide) (k := ?_)
        refine mj_b_iload (hE := fe_123_29) (hv := rfl) (k := ?_)
        refine mj_b_imul (hE := fe_123_31) (k := ?_)
        refine mj_b_iadd (hE := fe_123_32) (k := ?_)
        refine mj_b_istore_n (hE := fe_123_33) (hx := Nat.le_of_ble_eq_true rfl) (k := ?_)
        refine mj_b_iload (hE := fe_123_34) (hv := rfl) (k := ?_)
        refine mj_b_bipush (hE := fe_123_36) (k := ?_)
        refine mj_b_imul (hE := fe_123_38) (k := ?_)
        refine mj_b_istore (hE := fe_123_39) (hx := Nat.le_of_ble_eq_true rfl) (k := ?_)
        refine mj_b_iload (hE := fe_123_41) (hv := rfl) (k := ?_)
        refine mj_b_bipush (hE := fe_123_43) (k := ?_)
        refine mj_b_idiv (hE := fe_123_45) (hb := by decide) (k := ?_)
        refine mj_b_istore (hE := fe_123_46) (hx := Nat.le_of_ble_eq_true rfl) (k := ?_)
        refine mj_b_iinc (hE := fe_123_48) (hv := rfl) (k := ?_)
        refine mj_b_goto (hE := fe_123_51) (k := ?_)
        refine (show mj_T pj_P 123 11 [.int r, .int (nI pn), .int q, .int (nI m + (nI (pn * 8 ^ (k + 1) + t) - nI (pn * 8 ^ (k + 1) + t) / 8 * 8) * nI s), .int (nI s * 8), .int (nI (pn * 8 ^ (k + 1) + t) / 8), .int (nI c + 1)] [] M _ from ?_)
        rw [h8, h9, ← nI_succ, mi_mul, nI_add, show (8 : Int32) = nI 8 from rfl, mi_mul]
        have := ih (c + 1) (t / 8) (s * 8) (m + t % 8 * s) (by omega) (by rw [Nat.pow_succ] at ht; omega) (by omega)
        have e1 : s * 8 * 8 ^ k = s * 8 ^ (k + 1) := by rw [Nat.pow_succ, Nat.mul_assoc, Nat.mul_comm 8]
        have e2 : m + t % 8 * s + t / 8 * (s * 8) = m + t * s := by
          have : t * s = t % 8 * s + t / 8 * (s * 8) := by
            conv => lhs; rw [← Nat.mod_add_div t 8]
            rw [Nat.add_mul, Nat.mul_comm 8 (t / 8), Nat.mul_assoc, Nat.mul_comm 8 s]
          omega
        rw [e1, e2] at this
        exact this
/-- LockedTreeModel.move3 -/
theorem g123 {M : mj_H} {r p q : Int32} (hr : pf_path r = true) (hp : pf_path p = true) (hq : pf_path q = true) (hp0 : p ≠ 0) (hw : pf_within r p = true) : mj_G pj_P 123 [.int r, .int p, .int q] M (fun x => x = (some (.int (pf_answering r p q)), M)) := by
  obtain ⟨pn, k, t, rfl, hn, rfl, hr', ht⟩ := pw_split hr hp hw
  obtain ⟨m, rfl, hm⟩ := pf_path_nat hq
  have hn0 : 0 < pn := Nat.pos_of_ne_zero (fun e => hp0 (by rw [e]; rfl))
  have hx1 := hr'.1
  obtain ⟨k3, k8⟩ := pw_k3 hn0 hr'
  refine mj_enter in_123 (L := [.int (nI (pn * 8 ^ k + t)), .int (nI pn), .int (nI m), .retAddr 0, .retAddr 0, .retAddr 0, .retAddr 0]) rfl ?_
  refine mj_b_iconst (hE := fe_123_0) (k := ?_)
  refine mj_b_istore_n (hE := fe_123_1) (hx := Nat.le_of_ble_eq_true rfl) (k := ?_)
  refine mj_b_iconst (hE := fe_123_2) (k := ?_)
  refine mj_b_istore (hE := fe_123_3) (hx := Nat.le_of_ble_eq_true rfl) (k := ?_)
  refine mj_b_iload_n (hE := fe_123_5) (hv := rfl) (k := ?_)
  refine mj_b_istore (hE := fe_123_6) (hx := Nat.le_of_ble_eq_true rfl) (k := ?_)
  refine mj_b_iconst (hE := fe_123_8) (k := ?_)
  refine mj_b_istore (hE := fe_123_9) (hx := Nat.le_of_ble_eq_true rfl) (k := ?_)
  refine (l123 (M := M) (r := nI (pn * 8 ^ k + t)) (q := nI m) hn0 k 0 t 1 0 (by omega) ht (by omega)).mono ?_
  intro s hs
  rw [hs, pf_answering_nat hn0 (by omega) ht, Nat.one_mul, Nat.zero_add, Nat.mul_one, mi_mul, nI_add]
def wy_far (p q : Int32) (dq : Bool) (r : ty_rw) : Bool := pf_taken r.1 p dq && !decide (pf_nam 11 q + pf_nam 11 r.1 - pf_nam 11 p ≤ 4)
theorem i32_acc (c : Int32) (a b : Bool) (x y : Nat) : c + pz a - pz b + nI x - nI y = c + nI (x + (if a = true then 1 else 0)) - nI (y + (if b = true then 1 else 0)) := by
  have e1 : nI (x + (if a = true then 1 else 0)) = nI x + pz a := by cases a <;> simp [pz, nI_succ]
  have e2 : nI (y + (if b = true then 1 else 0)) = nI y + pz b := by cases b <;> simp [pz, nI_succ]
  rw [e1, e2]
  simp only [Int32.sub_eq_add_neg, Int32.neg_add]
  ac_rfl
set_option maxHeartbeats 2000000 in
theorem l119 {p q N : Int32} {dq : Bool} {F : Bool} {v4 v5 : Value} (hm : mm_ok R) (h : md_rep 0 (rs, S.2) I)
    (hk : ∀ v8 v9, mj_T pj_P 119 246 [.ref 87, .int p, .int q, .int (pz dq), v4, v5, .int N, .int (pz F), v8, v9] [] (mz_SH L, I, R) Q) :
    ∀ (k i : Nat) (c : Int32) (fr : Bool) (v9 : Value), i + k = rs.length → (fr || (rs.drop i).any (wy_far p q dq)) = F → c + nI ((rs.drop i).countP (fun r => pf_taken r.1 p dq)) - nI ((rs.drop i).countP (fun r => pf_within r.1 q)) = N → mj_T pj_P 119 113 [.ref 87, .int p, .int q, .int (pz dq), v4, v5, .int c, .int (pz fr), .int (nI i), v9] [] (mz_SH L, I, R) Q := by
  have hm0 := hm
  obtain ⟨q0, q1, q2, q3, q4, q5, q6, q7, q8, q9, q10, q11, q16, q21⟩ := hm
  have h87 := sm_87 L
  have h88 := sm_88 L
  have h98 := sm_98 L
  have hn := h.2.1.1
  rw [Nat.mul_zero] at hn
  have hn13 := h.2.1.2
  dsimp only at hn hn13
  intro k
  induction k with
  | zero =>
    intro i c fr v9 hi hF hN
    have hin : i = rs.length := by omega
    subst hin
    rw [List.drop_length] at hF hN
    simp only [List.any_nil, Bool.or_false, List.countP_nil] at hF hN
    have hN2 : c = N := by rw [← hN, show nI 0 = 0 from rfl, Int32.add_zero, Int32.sub_eq_add_neg, show -(0 : Int32) = 0 from rfl, Int32.add_zero]
    subst hF
    subst hN2
    refine mj_b_iload (hE := fe_119_113) (hv := rfl) (k := ?_)
    refine mj_b_rload_n (hE := fe_119_115) (hv := rfl) (k := ?_)
    refine mj_b_getQ (hE := fe_119_116) (hM := by assumption) (hv := by assumption) (k := ?_)
    refine mj_b_iconst (hE := fe_119_119) (k := ?_)
    refine mj_b_ialdN (hE := fe_119_120) (c := 0) (hM := by assumption) (ht := Or.inr rfl) (hj := rfl) (hc := by decide) (hn := by decide) (hv := by first | assumption | rfl) (k := ?_)
    refine mj_b_if2 (hE := fe_119_121) (kt := fun g => ?_) (kf := fun g => ?_)
    · exact hk _ _
    · simp [mj_cnd] at g
  | succ k ih =>
    intro i c fr v9 hi hF hN
    have hlt : i < rs.length := by omega
    have hgi : rs[i]? = some rs[i] := List.getElem?_eq_getElem hlt
    have hp0 := (h.2.2.2.1 i _ hgi).1
    rw [Nat.mul_zero, Nat.zero_add] at hp0
    rw [drop_get hlt, List.any_cons] at hF
    rw [drop_get hlt, List.countP_cons, List.countP_cons] at hN
    have p237 : ∀ (cm wt fr2 : Bool), cm = pf_taken (rs[i]).1 p dq → wt = pf_within (rs[i]).1 q → fr2 = (fr || wy_far p q dq rs[i]) → mj_T pj_P 119 237 [.ref 87, .int p, .int q, .int (pz dq), v4, v5, .int (c + pz cm), .int (pz fr2), .int (nI i), .int (pz cm)] [.int (pz wt), .int (c + pz cm)] (mz_SH L, I, R) Q := by
      intro cm wt fr2 hcm hwt hfr
      refine mj_b_isub (hE := fe_119_237) (k := ?_)
      refine mj_b_istore (hE := fe_119_238) (hx := Nat.le_of_ble_eq_true rfl) (k := ?_)
      refine mj_b_iinc (hE := fe_119_240) (hv := rfl) (k := ?_)
      refine mj_b_goto (hE := fe_119_243) (k := ?_)
      refine (show mj_T pj_P 119 113 [.ref 87, .int p, .int q, .int (pz dq), v4, v5, .int (c + pz cm - pz wt), .int (pz fr2), .int (nI i + 1), .int (pz cm)] [] (mz_SH L, I, R) Q from ?_)
      rw [← nI_succ]
      refine ih (i + 1) _ fr2 _ (by omega) ?_ ?_
      · rw [hfr, Bool.or_assoc]; exact hF
      · rw [i32_acc, hcm, hwt]; exact hN
    have p213 : ∀ (cm fr2 : Bool), cm = pf_taken (rs[i]).1 p dq → fr2 = (fr || wy_far p q dq rs[i]) → mj_T pj_P 119 213 [.ref 87, .int p, .int q, .int (pz dq), v4, v5, .int c, .int (pz fr2), .int (nI i), .int (pz cm)] [.int (pz cm), .int c] (mz_SH L, I, R) Q := by
      intro cm fr2 hcm hfr
      refine mj_b_iadd (hE := fe_119_213) (k := ?_)
      refine mj_b_istore (hE := fe_119_214) (hx := Nat.le_of_ble_eq_true rfl) (k := ?_)
      refine mj_b_iload (hE := fe_119_216) (hv := rfl) (k := ?_)
      refine mj_b_rload_n (hE := fe_119_218) (hv := rfl) (k := ?_)
      refine mj_b_getQ (hE := fe_119_219) (hM := by assumption) (hv := by assumption) (k := ?_)
      refine mj_b_iload (hE := fe_119_222) (hv := rfl) (k := ?_)
      refine mj_b_ialdN (hE := fe_119_224) (hM := h88) (ht := Or.inr rfl) (hj := rfl) (hc := by omega) (hn := by decide) (hv := hp0) (k := ?_)
      refine mj_b_iload_n (hE := fe_119_225) (hv := rfl) (k := ?_)
      refine mj_b_callR (hE := fe_119_226) (hi := in_116) (h1 := g116 _ _ _) (hc := mj_cok_s rfl) (ha := rfl) (hr := rfl) ?_
      refine mj_b_if1 (hE := fe_119_229) (kt := fun k1 => ?_) (kf := fun k1 => ?_)
      · simp only [mj_cnd, decide_eq_true_eq, pz_0] at k1
        refine mj_b_iconst (hE := fe_119_236) (k := ?_)
        exact p237 cm false fr2 hcm k1.symm hfr
      · simp only [mj_cnd, decide_eq_false_iff_not, pz_0, Bool.not_eq_false] at k1
        refine mj_b_iconst (hE := fe_119_232) (k := ?_)
        refine mj_b_goto (hE := fe_119_233) (k := ?_)
        exact p237 cm true fr2 hcm k1.symm hfr
    have p199 : ∀ (cm fr2 : Bool) (u : Value), cm = pf_taken (rs[i]).1 p dq → fr2 = (fr || wy_far p q dq rs[i]) → mj_T pj_P 119 199 [.ref 87, .int p, .int q, .int (pz dq), v4, v5, .int c, u, .int (nI i), .int (pz cm)] [.int (pz fr2)] (mz_SH L, I, R) Q := by
      intro cm fr2 u hcm hfr
      refine mj_b_istore (hE := fe_119_199) (hx := Nat.le_of_ble_eq_true rfl) (k := ?_)
      refine mj_b_iload (hE := fe_119_201) (hv := rfl) (k := ?_)
      refine mj_b_iload (hE := fe_119_203) (hv := rfl) (k := ?_)
      refine mj_b_if1 (hE := fe_119_205) (kt := fun k1 => ?_) (kf := fun k1 => ?_)
      · simp only [mj_cnd, decide_eq_true_eq, pz_0] at k1
        refine mj_b_iconst (hE := fe_119_212) (k := ?_)
        have := p213 cm fr2 hcm hfr
        rw [k1] at this ⊢
        exact this
      · simp only [mj_cnd, decide_eq_false_iff_not, pz_0, Bool.not_eq_false] at k1
        refine mj_b_iconst (hE := fe_119_208) (k := ?_)
        refine mj_b_goto (hE := fe_119_209) (k := ?_)
        have := p213 cm fr2 hcm hfr
        rw [k1] at this ⊢
        exact this
    have p158 : ∀ (cm : Bool) (u : Value), cm = pf_taken (rs[i]).1 p dq → mj_T pj_P 119 158 [.ref 87, .int p, .int q, .int (pz dq), v4, v5, .int c, .int (pz fr), .int (nI i), u] [.int (pz cm)] (mz_SH L, I, R) Q := by
      intro cm u hcm
      refine mj_b_istore (hE := fe_119_158) (hx := Nat.le_of_ble_eq_true rfl) (k := ?_)
      refine mj_b_iload (hE := fe_119_160) (hv := rfl) (k := ?_)
      refine mj_b_if1 (hE := fe_119_162) (kt := fun k1 => ?_) (kf := fun k1 => ?_)
      · simp only [mj_cnd, Bool.not_eq_true', decide_eq_false_iff_not, pz_0, Bool.not_eq_false] at k1
        refine mj_b_iconst (hE := fe_119_194) (k := ?_)
        refine mj_b_goto (hE := fe_119_195) (k := ?_)
        exact p199 cm true _ hcm (by simp [k1])
      · simp only [mj_cnd, Bool.not_eq_false', decide_eq_true_eq, pz_0] at k1
        refine mj_b_iload (hE := fe_119_165) (hv := rfl) (k := ?_)
        refine mj_b_if1 (hE := fe_119_167) (kt := fun k2 => ?_) (kf := fun k2 => ?_)
        · simp only [mj_cnd, decide_eq_true_eq, pz_0] at k2
          refine mj_b_iconst (hE := fe_119_198) (k := ?_)
          exact p199 cm false _ hcm (by simp [k1, wy_far, ← hcm, k2])
        · simp only [mj_cnd, decide_eq_false_iff_not, pz_0, Bool.not_eq_false] at k2
          refine mj_b_iload_n (hE := fe_119_170) (hv := rfl) (k := ?_)
          refine mj_b_callR (hE := fe_119_171) (hi := in_121) (h1 := g121 _ _) (hc := mj_cok_s rfl) (ha := rfl) (hr := rfl) ?_
          refine mj_b_rload_n (hE := fe_119_174) (hv := rfl) (k := ?_)
          refine mj_b_getQ (hE := fe_119_175) (hM := by assumption) (hv := by assumption) (k := ?_)
          refine mj_b_iload (hE := fe_119_178) (hv := rfl) (k := ?_)
          refine mj_b_ialdN (hE := fe_119_180) (hM := h88) (ht := Or.inr rfl) (hj := rfl) (hc := by omega) (hn := by decide) (hv := hp0) (k := ?_)
          refine mj_b_callR (hE := fe_119_181) (hi := in_121) (h1 := g121 _ _) (hc := mj_cok_s rfl) (ha := rfl) (hr := rfl) ?_
          refine mj_b_iadd (hE := fe_119_184) (k := ?_)
          refine mj_b_iload_n (hE := fe_119_185) (hv := rfl) (k := ?_)
          refine mj_b_callR (hE := fe_119_186) (hi := in_121) (h1 := g121 _ _) (hc := mj_cok_s rfl) (ha := rfl) (hr := rfl) ?_
          refine mj_b_isub (hE := fe_119_189) (k := ?_)
          refine mj_b_iconst (hE := fe_119_190) (k := ?_)
          refine mj_b_if2 (hE := fe_119_191) (kt := fun k3 => ?_) (kf := fun k3 => ?_)
          · simp only [mj_cnd, decide_eq_true_eq] at k3
            refine mj_b_iconst (hE := fe_119_198) (k := ?_)
            exact p199 cm false _ hcm (by simp [k1, wy_far, k3])
          · simp only [mj_cnd, decide_eq_false_iff_not] at k3
            refine mj_b_iconst (hE := fe_119_194) (k := ?_)
            refine mj_b_goto (hE := fe_119_195) (k := ?_)
            exact p199 cm true _ hcm (by simp [wy_far, ← hcm, k2, k3])
    refine mj_b_iload (hE := fe_119_113) (hv := rfl) (k := ?_)
    refine mj_b_rload_n (hE := fe_119_115) (hv := rfl) (k := ?_)
    refine mj_b_getQ (hE := fe_119_116) (hM := by assumption) (hv := by assumption) (k := ?_)
    refine mj_b_iconst (hE := fe_119_119) (k := ?_)
    refine mj_b_ialdN (hE := fe_119_120) (c := 0) (hM := by assumption) (ht := Or.inr rfl) (hj := rfl) (hc := by decide) (hn := by decide) (hv := by first | assumption | rfl) (k := ?_)
    refine mj_b_if2 (hE := fe_119_121) (kt := fun g => ?_) (kf := fun g => ?_)
    · simp only [mj_cnd, decide_eq_true_eq] at g
      exact absurd g (nI_ge (by omega) (by omega))
    · refine mj_b_rload_n (hE := fe_119_124) (hv := rfl) (k := ?_)
      refine mj_b_getQ (hE := fe_119_125) (hM := by assumption) (hv := by assumption) (k := ?_)
      refine mj_b_iload (hE := fe_119_128) (hv := rfl) (k := ?_)
      refine mj_b_ialdN (hE := fe_119_130) (hM := h88) (ht := Or.inr rfl) (hj := rfl) (hc := by omega) (hn := by decide) (hv := hp0) (k := ?_)
      refine mj_b_iload_n (hE := fe_119_131) (hv := rfl) (k := ?_)
      refine mj_b_if2 (hE := fe_119_132) (kt := fun k1 => ?_) (kf := fun k1 => ?_)
      · simp only [mj_cnd, decide_eq_true_eq] at k1
        refine mj_b_iconst (hE := fe_119_153) (k := ?_)
        refine mj_b_goto (hE := fe_119_154) (k := ?_)
        exact p158 true _ (by simp [pf_taken, k1])
      · simp only [mj_cnd, decide_eq_false_iff_not] at k1
        refine mj_b_iload_n (hE := fe_119_135) (hv := rfl) (k := ?_)
        refine mj_b_if1 (hE := fe_119_136) (kt := fun k2 => ?_) (kf := fun k2 => ?_)
        · simp only [mj_cnd, decide_eq_true_eq, pz_0] at k2
          refine mj_b_iconst (hE := fe_119_157) (k := ?_)
          exact p158 false _ (by simp [pf_taken, k1, k2])
        · simp only [mj_cnd, decide_eq_false_iff_not, pz_0, Bool.not_eq_false] at k2
          refine mj_b_rload_n (hE := fe_119_139) (hv := rfl) (k := ?_)
          refine mj_b_getQ (hE := fe_119_140) (hM := by assumption) (hv := by assumption) (k := ?_)
          refine mj_b_iload (hE := fe_119_143) (hv := rfl) (k := ?_)
          refine mj_b_ialdN (hE := fe_119_145) (hM := h88) (ht := Or.inr rfl) (hj := rfl) (hc := by omega) (hn := by decide) (hv := hp0) (k := ?_)
          refine mj_b_iload_n (hE := fe_119_146) (hv := rfl) (k := ?_)
          refine mj_b_callR (hE := fe_119_147) (hi := in_100) (h1 := g100 _ _ _) (hc := mj_cok_s rfl) (ha := rfl) (hr := rfl) ?_
          refine mj_b_if1 (hE := fe_119_150) (kt := fun k3 => ?_) (kf := fun k3 => ?_)
          · simp only [mj_cnd, decide_eq_true_eq, pz_0] at k3
            refine mj_b_iconst (hE := fe_119_157) (k := ?_)
            exact p158 false _ (by simp [pf_taken, k1, k3])
          · simp only [mj_cnd, decide_eq_false_iff_not, pz_0, Bool.not_eq_false] at k3
            refine mj_b_iconst (hE := fe_119_153) (k := ?_)
            refine mj_b_goto (hE := fe_119_154) (k := ?_)
            exact p158 true _ (by simp [pf_taken, k2, k3])
end NJ
