/-! ===== the class: a row is made; a lock is added ===== -/
def ar_sorted (rs : List ty_rw) : Prop := rs.Pairwise (fun a b => a.1 < b.1)
theorem cr_new_at (I : Nat → Nat → Int32) (a : Nat) (p k : Int32) : rw_at (cr_new I a p k) a = (p, k, 0, 0, 0, 0, 0) := by simp [rw_at, cr_new, mj_u]
theorem cr_new_off (I : Nat → Nat → Int32) (a : Nat) (p k : Int32) (x j : Nat) (h : x ≠ a) (h1 : x ≠ a + 1) : cr_new I a p k x j = I x j := by simp [cr_new, mj_u, h, h1]
theorem i32_nle_lt {a b : Int32} (h : ¬ a ≤ b) : b < a := by
  rw [Int32.le_iff_toInt_le] at h
  rw [Int32.lt_iff_toInt_lt]
  omega
theorem i32_lt_trans {a b c : Int32} (h : a < b) (h2 : b < c) : a < c := by
  rw [Int32.lt_iff_toInt_lt] at h h2 ⊢
  omega
theorem i32_le_ne_lt {a b : Int32} (h : a ≤ b) (h2 : a ≠ b) : a < b := by
  rw [Int32.le_iff_toInt_le] at h
  rw [Int32.lt_iff_toInt_lt]
  have : a.toInt ≠ b.toInt := fun e => h2 (Int32.toInt_inj.mp e)
  omega
section MK
variable {L b o : Nat} {pi : Nat → Nat} {S : ty_st} {I : Nat → Nat → Int32} {R R0 : Nat → Nat → Option Nat}
/-- Store.findOrMake: the row is there -/
theorem g42a {j : Nat} (p k : Int32) (h : cs_rep b pi S I R) (hj : ar_fi S.1 p = some j) :
    mj_G pj_P 42 [.ref b, .int p, .int k] (mz_SH L, I, R) (fun r => r = (some (.ref (cs_row b pi j)), (mz_SH L, I, R))) := by
  have hS := sh_S L h.1
  refine mj_enter in_42 (L := [.ref b, .int p, .int k, .retAddr 0, .retAddr 0, .retAddr 0]) rfl ?_
  refine mj_b_rload_n (hE := fe_42_0) (hv := rfl) (k := ?_)
  refine mj_b_iload_n (hE := fe_42_1) (hv := rfl) (k := ?_)
  refine mj_b_callR (hE := fe_42_2) (hi := in_28) (h1 := g28' p h) (hc := mj_cok_v rfl rfl hS) (ha := rfl) (hr := rfl) ?_
  rw [hj]
  refine (show mj_T pj_P 42 5 _ [va_rf (some (cs_row b pi j))] _ _ from ?_)
  refine mj_b_astore_n (hE := fe_42_5) (hx := Nat.le_of_ble_eq_true rfl) (k := ?_)
  refine mj_b_aload_n (hE := fe_42_6) (hv := rfl) (k := ?_)
  refine mj_b_nnul (hE := fe_42_7) (kn := fun g => ?_) (ks := fun ga g => ?_)
  · cases g
  · refine mj_b_rload_n (hE := fe_42_17) (hv := rfl) (k := ?_)
    exact mj_b_retQ (hE := fe_42_18) (hi := in_42) rfl
/-- the references above the place have moved up by one -/
def mk_inv (b n : Nat) (R0 : Nat → Nat → Option Nat) (t : Nat) (R : Nat → Nat → Option Nat) : Prop :=
  (∀ j, j < t → R (b + 1) j = R0 (b + 1) j) ∧ (∀ j, t < j → j ≤ n → R (b + 1) j = R0 (b + 1) (j - 1)) ∧ (∀ j, n < j → R (b + 1) j = R0 (b + 1) j) ∧ ∀ x j, x ≠ b + 1 → R x j = R0 x j
set_option maxHeartbeats 2000000 in
theorem l42 {n a : Nat} {p k : Int32} {v3 : Value} {rs : List ty_rw} {Q : Option Value × mj_H → Prop} (hb : b = 2 ∨ b = 37) (hok : cs_ok b pi R0) (hn : rs.length = n) (hn13 : n < 13) (hr : ∀ i r, rs[i]? = some r → rw_at I (cs_row b pi i) = r)
    (hk : ∀ t R, t ≤ n → mk_inv b n R0 t R → (∀ j r, t ≤ j → rs[j]? = some r → p < r.1) → (∀ r, 0 < t → rs[t - 1]? = some r → r.1 ≤ p) → mj_T pj_P 42 79 [.ref b, .int p, .int k, v3, .ref a, .int (nI t)] [] (mz_SH L, I, R) Q) :
    ∀ (t : Nat) (R : Nat → Nat → Option Nat), t ≤ n → mk_inv b n R0 t R → (∀ j r, t ≤ j → rs[j]? = some r → p < r.1) → mj_T pj_P 42 36 [.ref b, .int p, .int k, v3, .ref a, .int (nI t)] [] (mz_SH L, I, R) Q := by
  have hS := sh_S L hb
  have hA := sh_A L hb
  intro t
  induction t with
  | zero =>
    intro R ht hv hp
    refine mj_b_iload (hE := fe_42_36) (hv := rfl) (k := ?_)
    refine mj_b_if1 (hE := fe_42_38) (kt := fun h => ?_) (kf := fun h => ?_)
    · exact hk 0 R ht hv hp (fun r h0 => absurd h0 (by omega))
    · exact absurd h (by decide)
  | succ t ih =>
    intro R ht hv hp
    obtain ⟨v1, v2, v4, v5⟩ := hv
    have hR : R b 0 = some (b + 1) := by rw [v5 _ _ (by omega)]; exact hok.1
    obtain ⟨q1, q2⟩ := hok.2.2.1 t (by omega)
    have hrt : R (b + 1) t = some (b + 3 + 2 * pi t) := by rw [v1 t (by omega)]; exact q1
    have hC := sh_R L hb q2
    have hlt : t < rs.length := by omega
    have hrow := hr t _ (List.getElem?_eq_getElem hlt)
    have hp0 : I (b + 3 + 2 * pi t) 0 = (rs[t]).1 := by rw [← hrow]; rfl
    have hpr : nI (t + 1) - 1 = nI t := nI_pred t
    refine mj_b_iload (hE := fe_42_36) (hv := rfl) (k := ?_)
    refine mj_b_if1 (hE := fe_42_38) (kt := fun h => ?_) (kf := fun h => ?_)
    · simp only [mj_cnd, decide_eq_true_eq] at h
      exfalso
      rw [Int32.le_iff_toInt_le, nI_toInt (by omega), Int32.toInt_zero] at h
      omega
    · refine mj_b_rload_n (hE := fe_42_41) (hv := rfl) (k := ?_)
      refine mj_b_getQ (hE := fe_42_42) (hM := by assumption) (hv := by assumption) (k := ?_)
      refine mj_b_iload (hE := fe_42_45) (hv := rfl) (k := ?_)
      refine mj_b_iconst (hE := fe_42_47) (k := ?_)
      refine mj_b_isub (hE := fe_42_48) (k := ?_)
      refine mj_b_aaldQ (hE := fe_42_49) (c := t) (hM := hA) (ht := by decide) (hj := hpr) (hc := by omega) (hn := by decide) (hv := hrt) (k := ?_)
      refine mj_b_getV (hE := fe_42_50) (hM := by assumption) (hv := by assumption) (k := ?_)
      refine mj_b_iload_n (hE := fe_42_53) (hv := rfl) (k := ?_)
      refine mj_b_if2 (hE := fe_42_54) (kt := fun g => ?_) (kf := fun g => ?_)
      · simp only [mj_cnd, decide_eq_true_eq] at g
        refine hk (t + 1) R ht ⟨v1, v2, v4, v5⟩ hp ?_
        intro r _ hr2
        rw [show t + 1 - 1 = t by omega, List.getElem?_eq_getElem hlt] at hr2
        cases hr2
        exact g
      · simp only [mj_cnd, decide_eq_false_iff_not] at g
        refine mj_b_rload_n (hE := fe_42_57) (hv := rfl) (k := ?_)
        refine mj_b_getQ (hE := fe_42_58) (hM := by assumption) (hv := by assumption) (k := ?_)
        refine mj_b_iload (hE := fe_42_61) (hv := rfl) (k := ?_)
        refine mj_b_rload_n (hE := fe_42_63) (hv := rfl) (k := ?_)
        refine mj_b_getQ (hE := fe_42_64) (hM := by assumption) (hv := by assumption) (k := ?_)
        refine mj_b_iload (hE := fe_42_67) (hv := rfl) (k := ?_)
        refine mj_b_iconst (hE := fe_42_69) (k := ?_)
        refine mj_b_isub (hE := fe_42_70) (k := ?_)
        refine mj_b_aaldQ (hE := fe_42_71) (c := t) (hM := hA) (ht := by decide) (hj := hpr) (hc := by omega) (hn := by decide) (hv := hrt) (k := ?_)
        refine mj_b_aast (hE := fe_42_72) (u := 2) (hM := hA) (hq := hC) (hu := by decide) (hi := mj_ix_nI (show t + 1 < 13 by omega) (by decide)) (k := ?_)
        refine mj_b_iinc (hE := fe_42_73) (hv := rfl) (k := ?_)
        refine mj_b_goto (hE := fe_42_76) (k := ?_)
        rw [nI_clamp (by omega)]
        refine (show mj_T pj_P 42 36 [.ref b, .int p, .int k, v3, .ref a, .int (nI (t + 1) + -1)] [] (mz_SH L, I, _) Q from ?_)
        have e : nI (t + 1) + -1 = nI t := by rw [← hpr]; rw [Int32.sub_eq_add_neg]
        rw [e]
        refine ih _ (by omega) ⟨?_, ?_, ?_, ?_⟩ ?_
        · intro j hj
          simp only [mj_u]
          rw [if_neg (by omega)]
          exact v1 j (by omega)
        · intro j hj hjn
          by_cases hjt : j = t + 1
          · subst hjt
            rw [show t + 1 - 1 = t by omega, q1]
            exact mj_u_self _ _ _ _
          · simp only [mj_u]
            rw [if_neg (by omega)]
            exact v2 j (by omega) hjn
        · intro j hj
          simp only [mj_u]
          rw [if_neg (by omega)]
          exact v4 j hj
        · intro x j hx
          simp only [mj_u]
          rw [if_neg (by omega)]
          exact v5 x j hx
        · intro j r hj hjr
          by_cases hjt : j = t
          · subst hjt
            rw [List.getElem?_eq_getElem hlt] at hjr
            cases hjr
            exact i32_nle_lt g
          · exact hp j r (by omega) hjr
def ro_f (t n j : Nat) : Nat := if j < t then j else if j = t then n else if j ≤ n then j - 1 else j
set_option maxHeartbeats 2000000 in
/-- Store.findOrMake: a row is made -/
theorem g42m (p k : Int32) (h : cs_rep b pi S I R) (hno : ar_has S.1 p = false) (hlt : S.1.length < 13) (hso : ar_sorted S.1) :
    mj_G pj_P 42 [.ref b, .int p, .int k] (mz_SH L, I, R) (fun r => ∃ pi' I' R' pre suf, S.1 = pre ++ suf ∧ ar_sorted (pre ++ (p, k, 0, 0, 0, 0, 0) :: suf) ∧ r = (some (.ref (cs_row b pi' pre.length)), (mz_SH L, I', R')) ∧ cs_rep b pi' (pre ++ (p, k, 0, 0, 0, 0, 0) :: suf, S.2) I' R' ∧ fr_I b I I' ∧ fr_R b R R') := by
  have hb := h.1
  have hS := sh_S L hb
  have hA := sh_A L hb
  have hok := h.2.1
  have hn := h.2.2.1.1
  have hR := hok.1
  obtain ⟨q1, q2⟩ := hok.2.2.1 S.1.length hlt
  have hC := sh_R L hb q2
  have hCp := sh_P L hb q2
  have hRp := hok.2.2.2.2.1 _ q2
  have e1 : b + 3 + 2 * pi S.1.length + 1 = b + 4 + 2 * pi S.1.length := by omega
  refine mj_enter in_42 (L := [.ref b, .int p, .int k, .retAddr 0, .retAddr 0, .retAddr 0]) rfl ?_
  refine mj_b_rload_n (hE := fe_42_0) (hv := rfl) (k := ?_)
  refine mj_b_iload_n (hE := fe_42_1) (hv := rfl) (k := ?_)
  refine mj_b_callR (hE := fe_42_2) (hi := in_28) (h1 := g28' p h) (hc := mj_cok_v rfl rfl hS) (ha := rfl) (hr := rfl) ?_
  rw [ar_fi_none hno]
  refine (show mj_T pj_P 42 5 _ [va_rf none] _ _ from ?_)
  refine mj_b_astore_n (hE := fe_42_5) (hx := Nat.le_of_ble_eq_true rfl) (k := ?_)
  refine mj_b_aload_n (hE := fe_42_6) (hv := rfl) (k := ?_)
  refine mj_b_nnul (hE := fe_42_7) (kn := fun g => ?_) (ks := fun ga g => ?_)
  · refine mj_b_rload_n (hE := fe_42_10) (hv := rfl) (k := ?_)
    refine mj_b_callR (hE := fe_42_11) (hi := in_36) (h1 := g36 hb hok hn) (hc := mj_cok_v rfl rfl hS) (ha := rfl) (hr := rfl) ?_
    have hfull : decide (nI S.1.length < Int32.ofNat 13) = true := decide_eq_true (nI_lt hlt (by decide))
    rw [hfull]
    refine mj_b_if1 (hE := fe_42_14) (kt := fun g2 => ?_) (kf := fun g2 => ?_)
    · refine mj_b_rload_n (hE := fe_42_19) (hv := rfl) (k := ?_)
      refine mj_b_getQ (hE := fe_42_20) (hM := by assumption) (hv := by assumption) (k := ?_)
      refine mj_b_rload_n (hE := fe_42_23) (hv := rfl) (k := ?_)
      refine mj_b_getV (hE := fe_42_24) (hM := by assumption) (hv := by assumption) (k := ?_)
      refine mj_b_aaldQ (hE := fe_42_27) (c := S.1.length) (hM := hA) (ht := by decide) (hj := rfl) (hc := hlt) (hn := by decide) (hv := q1) (k := ?_)
      refine mj_b_rstore (hE := fe_42_28) (hx := Nat.le_of_ble_eq_true rfl) (k := ?_)
      refine mj_b_rload_n (hE := fe_42_30) (hv := rfl) (k := ?_)
      refine mj_b_getV (hE := fe_42_31) (hM := by assumption) (hv := by assumption) (k := ?_)
      refine mj_b_istore (hE := fe_42_34) (hx := Nat.le_of_ble_eq_true rfl) (k := ?_)
      refine l42 hb hok rfl hlt h.2.2.2.2.1 ?_ S.1.length R (Nat.le_refl _) ⟨fun _ _ => rfl, fun j h1 h2 => absurd h1 (by omega), fun _ _ => rfl, fun _ _ _ => rfl⟩ ?_
      · intro t R1 ht hv hgt hle
        obtain ⟨v1, v2, v4, v5⟩ := hv
        have hR1 : R1 b 0 = some (b + 1) := by rw [v5 _ _ (by omega)]; exact hR
        refine mj_b_rload_n (hE := fe_42_79) (hv := rfl) (k := ?_)
        refine mj_b_getQ (hE := fe_42_80) (hM := by assumption) (hv := by assumption) (k := ?_)
        refine mj_b_iload (hE := fe_42_83) (hv := rfl) (k := ?_)
        refine mj_b_rload (hE := fe_42_85) (hv := rfl) (k := ?_)
        refine mj_b_aast (hE := fe_42_87) (u := 2) (hM := hA) (hq := hC) (hu := by decide) (hi := mj_ix_nI (show t < 13 by omega) (by decide)) (k := ?_)
        refine mj_b_rload_n (hE := fe_42_88) (hv := rfl) (k := ?_)
        refine mj_b_dup (hE := fe_42_89) (hv := rfl) (k := ?_)
        refine mj_b_getV (hE := fe_42_90) (hM := by assumption) (hv := by assumption) (k := ?_)
        refine mj_b_iconst (hE := fe_42_93) (k := ?_)
        refine mj_b_iadd (hE := fe_42_94) (k := ?_)
        refine mj_b_putI (hE := fe_42_95) (hw := Or.inl rfl) (hM := by assumption) (k := ?_)
        rw [nI_clamp (by omega)]
        have hRp1 : mj_u R1 (b + 1) t (some (b + 3 + 2 * pi S.1.length)) (b + 3 + 2 * pi S.1.length) 4 = some (b + 4 + 2 * pi S.1.length) := by
          rw [mj_u_na _ _ _ _ (by omega), v5 _ _ (by omega)]; exact hRp
        refine mj_b_rload (hE := fe_42_98) (hv := rfl) (k := ?_)
        refine mj_b_iload_n (hE := fe_42_100) (hv := rfl) (k := ?_)
        refine mj_b_iload_n (hE := fe_42_101) (hv := rfl) (k := ?_)
        refine mj_b_callN (hE := fe_42_102) (hi := in_43) (h1 := g43 (a := b + 3 + 2 * pi S.1.length) p k hC (by rw [e1]; exact hCp) (by rw [e1]; exact hRp1)) (hc := mj_cok_v rfl rfl hC) (ha := rfl) (hr := rfl) ?_
        refine mj_b_rload (hE := fe_42_105) (hv := rfl) (k := ?_)
        refine (show mj_T pj_P 42 107 _ [.ref (b + 3 + 2 * pi S.1.length)] (mz_SH L, cr_new (mj_u I b 1 (nI S.1.length + 1)) (b + 3 + 2 * pi S.1.length) p k, mj_u R1 (b + 1) t (some (b + 3 + 2 * pi S.1.length))) _ from ?_)
        have hpre : (S.1.take t).length = t := List.length_take_of_le ht
        have hσ : ∀ j, j < 13 → ro_f t S.1.length j < 13 := by intro j hj; unfold ro_f; split <;> (try split) <;> (try split) <;> omega
        have hσt : ro_f t S.1.length t = S.1.length := by unfold ro_f; rw [if_neg (by omega), if_pos rfl]
        have hcell : cs_row b (fun j => pi (ro_f t S.1.length j)) (S.1.take t).length = b + 3 + 2 * pi S.1.length := by rw [hpre]; simp only [cs_row, hσt]
        have hsrt : ar_sorted (S.1.take t ++ (p, k, 0, 0, 0, 0, 0) :: S.1.drop t) := by
          unfold ar_sorted at hso ⊢
          have hso2 := hso
          rw [← List.take_append_drop t S.1, List.pairwise_append] at hso2
          rw [List.pairwise_append]
          obtain ⟨s1, s2, s3⟩ := hso2
          have hall : ∀ x, x ∈ S.1.drop t → p < x.1 := by
            intro x hx
            obtain ⟨j, hj⟩ := List.mem_iff_getElem?.mp hx
            rw [List.getElem?_drop] at hj
            exact hgt _ x (by omega) hj
          have hbef : ∀ x, x ∈ S.1.take t → x.1 < p := by
            intro x hx
            have hxp : x.1 ≠ p := by
              intro e
              have : ar_has S.1 p = true := List.any_eq_true.mpr ⟨x, List.mem_of_mem_take hx, decide_eq_true e⟩
              rw [hno] at this
              cases this
            obtain ⟨j, hj⟩ := List.mem_iff_getElem?.mp hx
            have hjt : j < t := by have := (List.getElem?_eq_some_iff.mp hj).1; omega
            have hjx : S.1[j]? = some x := by rw [List.getElem?_take] at hj; rwa [if_pos hjt] at hj
            by_cases hjl : j = t - 1
            · exact i32_le_ne_lt (hle x (by omega) (by rw [← hjl]; exact hjx)) hxp
            · have htl : t - 1 < S.1.length := by omega
              have h1 := hle _ (by omega) (List.getElem?_eq_getElem htl)
              have hjL : j < S.1.length := by omega
              have h2 := (List.pairwise_iff_getElem.mp hso) j (t - 1) hjL htl (by omega)
              rw [List.getElem?_eq_getElem hjL] at hjx
              cases hjx
              by_cases e : (S.1[t-1]).1 = p
              · rw [← e]; exact h2
              · exact i32_lt_trans h2 (i32_le_ne_lt h1 e)
          refine ⟨s1, ?_, ?_⟩
          · exact List.pairwise_cons.mpr ⟨hall, s2⟩
          · intro x hx y hy
            rcases List.mem_cons.mp hy with rfl | hy
            · exact hbef x hx
            · exact s3 x hx y hy
        refine mj_b_retQ (hE := fe_42_107) (hi := in_42) ⟨fun j => pi (ro_f t S.1.length j), _, _, S.1.take t, S.1.drop t, (List.take_append_drop t S.1).symm, hsrt, by rw [hcell], ⟨hb, ?_, ⟨?_, ?_⟩, ⟨?_, h.2.2.2.1.2⟩, ?_, ?_, ?_, ?_, ?_⟩, ?_, ?_⟩
        · refine hok.perm hσ ?_ ?_ ?_
          · intro x y hx hy e
            unfold ro_f at e
            repeat' split at e
            all_goals omega
          · intro j hj
            simp only [mj_u, ro_f]
            by_cases c1 : j < t
            · rw [if_neg (by omega), if_pos c1]; exact v1 j c1
            · by_cases c2 : j = t
              · subst c2; simp [q1]
              · rw [if_neg (by omega), if_neg c1, if_neg c2]
                by_cases c3 : j ≤ S.1.length
                · rw [if_pos c3]; exact v2 j (by omega) c3
                · rw [if_neg c3]; exact v4 j (by omega)
          · intro x j hx
            rw [mj_u_na _ _ _ _ hx]; exact v5 x j hx
        · rw [cr_new_off _ _ _ _ _ _ (by omega) (by omega), mj_u_self]
          have : (S.1.take t ++ (p, k, (0 : Int32), (0 : Int32), (0 : Int32), (0 : Int32), (0 : Int32)) :: S.1.drop t).length = S.1.length + 1 := by simp; omega
          rw [this, nI_succ]
        · simp; omega
        · rw [cr_new_off _ _ _ _ _ _ (by omega) (by omega), mj_u_nj _ _ _ _ (by decide)]; exact h.2.2.2.1.1
        · intro i r hi
          rw [List.getElem?_append, hpre] at hi
          have hother : ∀ m, m < S.1.length → rw_at (cr_new (mj_u I b 1 (nI S.1.length + 1)) (b + 3 + 2 * pi S.1.length) p k) (b + 3 + 2 * pi m) = rw_at I (b + 3 + 2 * pi m) := by
            intro m hm
            have hne : pi m ≠ pi S.1.length := fun e => absurd (hok.2.2.2.2.2 m _ (by omega) hlt e) (by omega)
            refine rw_at_eq ?_ ?_
            · intro q; rw [cr_new_off _ _ _ _ _ _ (by omega) (by omega), mj_u_na _ _ _ _ (by omega)]
            · intro q; rw [cr_new_off _ _ _ _ _ _ (by omega) (by omega), mj_u_na _ _ _ _ (by omega)]
          split at hi
          · rename_i hit
            rw [List.getElem?_take, if_pos hit] at hi
            have e : ro_f t S.1.length i = i := by unfold ro_f; rw [if_pos hit]
            simp only [cs_row, e]
            rw [hother i (by omega)]
            exact h.2.2.2.2.1 i r hi
          · rename_i hit
            by_cases c2 : i = t
            · subst c2
              rw [Nat.sub_self] at hi
              simp only [List.getElem?_cons_zero, Option.some.injEq] at hi
              simp only [cs_row, hσt]
              rw [cr_new_at, hi]
            · rw [show i - t = (i - t - 1) + 1 by omega, List.getElem?_cons_succ, List.getElem?_drop, show t + (i - t - 1) = i - 1 by omega] at hi
              have hil := (List.getElem?_eq_some_iff.mp hi).1
              have e : ro_f t S.1.length i = i - 1 := by unfold ro_f; rw [if_neg hit, if_neg c2, if_pos (by omega)]
              simp only [cs_row, e]
              rw [hother (i - 1) hil]
              exact h.2.2.2.2.1 _ r hi
        · intro i l hi
          exact lk_at_eq (fun q => by rw [cr_new_off _ _ _ _ _ _ (by omega) (by omega), mj_u_na _ _ _ _ (by omega)]) (h.2.2.2.2.2.1 i l hi)
        · rw [cr_new_off _ _ _ _ _ _ (by omega) (by omega), mj_u_nj _ _ _ _ (by decide)]; exact h.2.2.2.2.2.2.1
        · rw [cr_new_off _ _ _ _ _ _ (by omega) (by omega), mj_u_nj _ _ _ _ (by decide)]; exact h.2.2.2.2.2.2.2.1
        · rw [cr_new_off _ _ _ _ _ _ (by omega) (by omega), mj_u_nj _ _ _ _ (by decide)]; exact h.2.2.2.2.2.2.2.2
        · intro x j hx
          rw [cr_new_off _ _ _ _ _ _ (by omega) (by omega), mj_u_na _ _ _ _ (by omega)]
        · intro x j hx
          rw [mj_u_na _ _ _ _ (by omega)]; exact v5 x j (by omega)
      · intro j r hj hjr
        exact absurd (List.getElem?_eq_some_iff.mp hjr).1 (by omega)
    · exact absurd g2 (by decide)
  · cases g
set_option maxHeartbeats 1000000 in
/-- Store.addLike: a row is made like another store's -/
theorem g66 {c : Nat} {po : Nat → Nat} {So : ty_st} {j : Nat} {r0 : ty_rw} (p s : Int32) (h : cs_rep b pi S I R) (ho : cs_rep c po So I R) (hbc : c ≠ b) (hj : So.1[j]? = some r0) (hno : ar_has S.1 p = false) (hlt : S.1.length < 13) (hso : ar_sorted S.1) :
    mj_G pj_P 66 [.ref b, .ref (cs_row c po j), .int p, .int s] (mz_SH L, I, R) (fun r => ∃ pi' I' R' pre suf, S.1 = pre ++ suf ∧ ar_sorted (pre ++ (p, r0.2.1, r0.2.2.1, s, r0.2.2.2.2) :: suf) ∧ r = (none, (mz_SH L, I', R')) ∧ cs_rep b pi' (pre ++ (p, r0.2.1, r0.2.2.1, s, r0.2.2.2.2) :: suf, S.2) I' R' ∧ fr_I b I I' ∧ fr_R b R R') := by
  have hb := h.1
  have hcb := ho.1
  have hS := sh_S L hb
  have hjl := (List.getElem?_eq_some_iff.mp hj).1
  have hn13 := ho.2.2.1.2
  have hq := (ho.2.1.2.2.1 j (by omega)).2
  have hD := sh_R L hcb hq
  have hDp := sh_P L hcb hq
  have hrow := ho.2.2.2.2.1 j r0 hj
  have hk : I (c + 3 + 2 * po j) 1 = r0.2.1 := by rw [← hrow]; rfl
  refine mj_enter in_66 (L := [.ref b, .ref (c + 3 + 2 * po j), .int p, .int s, .retAddr 0]) rfl ?_
  refine mj_b_rload_n (hE := fe_66_0) (hv := rfl) (k := ?_)
  refine mj_b_iload_n (hE := fe_66_1) (hv := rfl) (k := ?_)
  refine mj_b_rload_n (hE := fe_66_2) (hv := rfl) (k := ?_)
  refine mj_b_getV (hE := fe_66_3) (hM := by assumption) (hv := by assumption) (k := ?_)
  refine mj_b_call (hE := fe_66_6) (hi := in_42) (h1 := g42m p r0.2.1 h hno hlt hso) (hc := mj_cok_v rfl rfl hS) (ha := rfl) (hr := rfl) ?_
  rintro v M1 ⟨pi', I', R', pre, suf, hps, hsrt, hM1, hrep, hfI, hfR⟩
  cases hM1
  have ho' := ho.fr hb hbc hfI hfR
  have hlen : pre.length < 13 := by rw [hps, List.length_append] at hlt; omega
  have hq' := (hrep.2.1.2.2.1 pre.length hlen).2
  have hC := sh_R L hb hq'
  have hCp := sh_P L hb hq'
  have e1 : b + 3 + 2 * pi' pre.length + 1 = b + 4 + 2 * pi' pre.length := by omega
  have e2 : c + 3 + 2 * po j + 1 = c + 4 + 2 * po j := by omega
  refine (show mj_T pj_P 66 9 _ [va_rf (some (b + 3 + 2 * pi' pre.length))] _ _ from ?_)
  refine mj_b_astore (hE := fe_66_9) (hx := Nat.le_of_ble_eq_true rfl) (k := ?_)
  refine mj_b_aload (hE := fe_66_11) (hv := rfl) (k := ?_)
  refine mj_b_nul (hE := fe_66_13) (kn := fun g => ?_) (ks := fun ga g => ?_)
  · cases g
  · refine (show mj_T pj_P 66 16 [.ref b, .ref (c + 3 + 2 * po j), .int p, .int s, .ref (b + 3 + 2 * pi' pre.length)] [] _ _ from ?_)
    refine mj_b_rload (hE := fe_66_16) (hv := rfl) (k := ?_)
    refine mj_b_rload_n (hE := fe_66_18) (hv := rfl) (k := ?_)
    refine mj_b_callN (hE := fe_66_19) (hi := in_40) (h1 := g40 (a := b + 3 + 2 * pi' pre.length) (o := c + 3 + 2 * po j) hC (by rw [e1]; exact hCp) (by rw [e1]; exact hrep.2.1.2.2.2.2.1 _ hq') hD (by rw [e2]; exact hDp) (by rw [e2]; exact ho'.2.1.2.2.2.2.1 _ hq) (by omega) (by omega) (by omega)) (hc := mj_cok_v rfl rfl hC) (ha := rfl) (hr := rfl) ?_
    refine mj_b_rload (hE := fe_66_22) (hv := rfl) (k := ?_)
    refine mj_b_iload_n (hE := fe_66_24) (hv := rfl) (k := ?_)
    refine mj_b_putI (hE := fe_66_25) (hw := Or.inl rfl) (hM := by assumption) (k := ?_)
    refine mj_b_rload (hE := fe_66_28) (hv := rfl) (k := ?_)
    refine mj_b_iload_n (hE := fe_66_30) (hv := rfl) (k := ?_)
    refine mj_b_putI (hE := fe_66_31) (hw := Or.inl rfl) (hM := by assumption) (k := ?_)
    have hset := hrep.set (j := pre.length) (I' := mj_u (mj_u (cr_tak I' (b + 3 + 2 * pi' pre.length) (c + 3 + 2 * po j)) (b + 3 + 2 * pi' pre.length) 0 p) (b + 3 + 2 * pi' pre.length) 3 s) (r' := (p, r0.2.1, r0.2.2.1, s, r0.2.2.2.2)) (by simp) ?_ ?_
    · refine mj_b_retV (hE := fe_66_34) (hi := in_66) ⟨pi', _, R', pre, suf, hps, ?_, rfl, ?_, ?_, hfR⟩
      · unfold ar_sorted at hsrt ⊢
        rw [List.pairwise_append, List.pairwise_cons] at hsrt ⊢
        refine ⟨hsrt.1, hsrt.2.1, ?_⟩
        intro x hx y hy
        rcases List.mem_cons.mp hy with rfl | hy
        · exact hsrt.2.2 x hx (p, r0.2.1, 0, 0, 0, 0, 0) (List.mem_cons_self ..)
        · exact hsrt.2.2 x hx y (List.mem_cons_of_mem _ hy)
      · simp at hset
        exact hset
      · intro x k hx
        dsimp only
        rw [mj_u_na _ _ _ _ (by omega), mj_u_na _ _ _ _ (by omega), cr_tak_off _ _ _ _ _ (by omega) (by omega)]
        exact hfI x k hx
    · have e := cr_tak_at I' (b + 3 + 2 * pi' pre.length) (c + 3 + 2 * po j)
      have hrow' : rw_at I' (c + 3 + 2 * po j) = r0 := ho'.2.2.2.2.1 j r0 hj
      rw [hrow'] at e
      rw [← e]
      simp [rw_at, cs_row, mj_u]
    · intro x k h1 h2
      have h1' : x ≠ b + 3 + 2 * pi' pre.length := h1
      have h2' : x ≠ b + 3 + 2 * pi' pre.length + 1 := h2
      rw [mj_u_na _ _ _ _ h1', mj_u_na _ _ _ _ h1', cr_tak_off _ _ _ _ _ h1' h2']
set_option maxHeartbeats 1000000 in
/-- Store.addLock -/
theorem g75 (p t : Int32) (ex dp : Bool) (h : cs_rep b pi S I R) (hlt : S.2.1.length < 6) :
    mj_G pj_P 75 [.ref b, .int p, .int (pz ex), .int (pz dp), .int t] (mz_SH L, I, R) (fun r => ∃ I', r = (none, (mz_SH L, I', R)) ∧ cs_rep b pi (S.1, S.2.1 ++ [(S.2.2.2.2, p, S.2.2.1 + t, ex, dp)], S.2.2.1, S.2.2.2.1, S.2.2.2.2 + 1) I' R ∧ fr_I b I I') := by
  obtain ⟨hb, hok, ⟨n1, n2⟩, ⟨l1, l2⟩, hr, hk, k1, k2, k3⟩ := h
  have hS := sh_S L hb
  have hA := sh_K L hb
  have hR := hok.2.1
  have hq := hok.2.2.2.1 _ hlt
  have hC := sh_L L hb hlt
  have hne : b ≠ b + 29 + S.2.1.length := by omega
  refine mj_enter in_75 (L := [.ref b, .int p, .int (pz ex), .int (pz dp), .int t, .retAddr 0]) rfl ?_
  refine mj_b_rload_n (hE := fe_75_0) (hv := rfl) (k := ?_)
  refine mj_b_getV (hE := fe_75_1) (hM := by assumption) (hv := by assumption) (k := ?_)
  refine mj_b_rload_n (hE := fe_75_4) (hv := rfl) (k := ?_)
  refine mj_b_getQ (hE := fe_75_5) (hM := by assumption) (hv := by assumption) (k := ?_)
  refine mj_b_len (hE := fe_75_8) (hM := hA) (ht := Or.inr (by decide)) (k := ?_)
  refine mj_b_if2 (hE := fe_75_9) (kt := fun g => ?_) (kf := fun g => ?_)
  · refine mj_b_rload_n (hE := fe_75_13) (hv := rfl) (k := ?_)
    refine mj_b_getQ (hE := fe_75_14) (hM := by assumption) (hv := by assumption) (k := ?_)
    refine mj_b_rload_n (hE := fe_75_17) (hv := rfl) (k := ?_)
    refine mj_b_getV (hE := fe_75_18) (hM := by assumption) (hv := by assumption) (k := ?_)
    refine mj_b_aaldQ (hE := fe_75_21) (c := S.2.1.length) (hM := hA) (ht := by decide) (hj := rfl) (hc := hlt) (hn := by decide) (hv := hq) (k := ?_)
    refine mj_b_rstore (hE := fe_75_22) (hx := Nat.le_of_ble_eq_true rfl) (k := ?_)
    refine mj_b_rload (hE := fe_75_24) (hv := rfl) (k := ?_)
    refine mj_b_rload_n (hE := fe_75_26) (hv := rfl) (k := ?_)
    refine mj_b_getV (hE := fe_75_27) (hM := by assumption) (hv := by assumption) (k := ?_)
    refine mj_b_putI (hE := fe_75_30) (hw := Or.inl rfl) (hM := by assumption) (k := ?_)
    refine mj_b_rload (hE := fe_75_33) (hv := rfl) (k := ?_)
    refine mj_b_iload_n (hE := fe_75_35) (hv := rfl) (k := ?_)
    refine mj_b_putI (hE := fe_75_36) (hw := Or.inl rfl) (hM := by assumption) (k := ?_)
    refine mj_b_rload (hE := fe_75_39) (hv := rfl) (k := ?_)
    refine mj_b_rload_n (hE := fe_75_41) (hv := rfl) (k := ?_)
    refine mj_b_getV (hE := fe_75_42) (v := S.2.2.1) (hM := hS) (hv := by simp [mj_u, hne, k1]) (k := ?_)
    refine mj_b_iload (hE := fe_75_45) (hv := rfl) (k := ?_)
    refine mj_b_iadd (hE := fe_75_47) (k := ?_)
    refine mj_b_putI (hE := fe_75_48) (hw := Or.inl rfl) (hM := by assumption) (k := ?_)
    refine mj_b_rload (hE := fe_75_51) (hv := rfl) (k := ?_)
    refine mj_b_iload_n (hE := fe_75_53) (hv := rfl) (k := ?_)
    refine mj_b_putI (hE := fe_75_54) (hw := Or.inr ⟨rfl, pz_01 _⟩) (hM := hC) (k := ?_)
    refine mj_b_rload (hE := fe_75_57) (hv := rfl) (k := ?_)
    refine mj_b_iload_n (hE := fe_75_59) (hv := rfl) (k := ?_)
    refine mj_b_putI (hE := fe_75_60) (hw := Or.inr ⟨rfl, pz_01 _⟩) (hM := hC) (k := ?_)
    refine mj_b_rload_n (hE := fe_75_63) (hv := rfl) (k := ?_)
    refine mj_b_dup (hE := fe_75_64) (hv := rfl) (k := ?_)
    refine mj_b_getV (hE := fe_75_65) (v := nI S.2.1.length) (hM := hS) (hv := by simp [mj_u, hne, l1]) (k := ?_)
    refine mj_b_iconst (hE := fe_75_68) (k := ?_)
    refine mj_b_iadd (hE := fe_75_69) (k := ?_)
    refine mj_b_putI (hE := fe_75_70) (hw := Or.inl rfl) (hM := by assumption) (k := ?_)
    refine mj_b_rload_n (hE := fe_75_73) (hv := rfl) (k := ?_)
    refine mj_b_dup (hE := fe_75_74) (hv := rfl) (k := ?_)
    refine mj_b_getV (hE := fe_75_75) (v := S.2.2.2.2) (hM := hS) (hv := by simp [mj_u, hne, k3]) (k := ?_)
    refine mj_b_iconst (hE := fe_75_78) (k := ?_)
    refine mj_b_iadd (hE := fe_75_79) (k := ?_)
    refine mj_b_putI (hE := fe_75_80) (hw := Or.inl rfl) (hM := by assumption) (k := ?_)
    refine mj_b_retV (hE := fe_75_83) (hi := in_75) ⟨_, rfl, ⟨hb, hok, ⟨?_, n2⟩, ⟨?_, ?_⟩, ?_, ?_, ?_, ?_, ?_⟩, ?_⟩
    · simp [mj_u, hne, n1]
    · simp [mj_u, nI_succ]
    · simp; omega
    · intro i r hi
      have hl : i < S.1.length := (List.getElem?_eq_some_iff.mp hi).1
      have := (hok.2.2.1 i (by omega)).2
      have a1 : cs_row b pi i ≠ b := by unfold cs_row; omega
      have a2 : cs_row b pi i ≠ b + 29 + S.2.1.length := by unfold cs_row; omega
      have a3 : cs_row b pi i + 1 ≠ b := by unfold cs_row; omega
      have a4 : cs_row b pi i + 1 ≠ b + 29 + S.2.1.length := by unfold cs_row; omega
      rw [rw_at_eq (I := I)]
      · exact hr i r hi
      · intro k; simp [mj_u, a1, a2]
      · intro k; simp [mj_u, a3, a4]
    · intro i l hi
      have hib : b + 29 + i ≠ b := by omega
      rw [List.getElem?_append] at hi
      split at hi
      · rename_i hil
        refine lk_at_eq (I := I) (fun k => ?_) (hk i l hi)
        have : i ≠ S.2.1.length := by omega
        simp [mj_u, hib, this]
      · rename_i hil
        have hj1 := (List.getElem?_eq_some_iff.mp hi).1
        simp only [List.length_cons, List.length_nil] at hj1
        have e : i = S.2.1.length := by omega
        subst e
        rw [Nat.sub_self] at hi
        simp only [List.getElem?_cons_zero, Option.some.injEq] at hi
        subst hi
        refine ⟨?_, ?_, ?_, ?_, ?_⟩ <;> simp [mj_u, hib, k3, k1]
    · simp [mj_u, hne, k1]
    · simp [mj_u, hne, k2]
    · simp [mj_u, hne]
    · intro x j hx
      have a1 : x ≠ b := by omega
      have a2 : x ≠ b + 29 + S.2.1.length := by omega
      simp [mj_u, a1, a2]
  · simp only [mj_cnd, decide_eq_false_iff_not] at g
    exact absurd (nI_lt (b := 6) hlt (by decide)) g
end MK
