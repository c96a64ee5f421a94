/-! ===== the constructors of the header, of the class, of the model ===== -/
section KB
variable {Sh : List (Nat × Nat)} {I I' I0 : Nat → Nat → Int32} {R R' R0 : Nat → Nat → Option Nat} {b a c : Nat} {pi : Nat → Nat} {S : ty_st} {Q : Option Value × mj_H → Prop}
theorem cs_ok.on (h : cs_ok c pi R) (eR : ∀ x j, c ≤ x → x ≤ c + 34 → R' x j = R x j) : cs_ok c pi R' := by
  obtain ⟨o1, o2, o3, o4, o5, o6⟩ := h
  refine ⟨?_, ?_, ?_, ?_, ?_, o6⟩
  · rw [eR _ _ (by omega) (by omega)]; exact o1
  · rw [eR _ _ (by omega) (by omega)]; exact o2
  · intro i hi; rw [eR _ _ (by omega) (by omega)]; exact o3 i hi
  · intro i hi; rw [eR _ _ (by omega) (by omega)]; exact o4 i hi
  · intro i hi; rw [eR _ _ (by omega) (by omega)]; exact o5 i hi
theorem cs_rep.on (h : cs_rep c pi S I R) (eI : ∀ x j, c ≤ x → x ≤ c + 34 → I' x j = I x j) (eR : ∀ x j, c ≤ x → x ≤ c + 34 → R' x j = R x j) : cs_rep c pi S I' R' := by
  obtain ⟨hc, hok, ⟨n1, n2⟩, ⟨l1, l2⟩, hr, hk, k1, k2, k3⟩ := h
  have o3 := hok.2.2.1
  refine ⟨hc, hok.on eR, ⟨?_, n2⟩, ⟨?_, l2⟩, ?_, ?_, ?_, ?_, ?_⟩
  · rw [eI _ _ (by omega) (by omega)]; exact n1
  · rw [eI _ _ (by omega) (by omega)]; exact l1
  · intro i r hi
    have hlt : i < S.1.length := (List.getElem?_eq_some_iff.mp hi).1
    have := (o3 i (by omega)).2
    rw [rw_at_eq (I := I)]
    · exact hr i r hi
    · intro j; exact eI _ _ (by unfold cs_row; omega) (by unfold cs_row; omega)
    · intro j; exact eI _ _ (by unfold cs_row; omega) (by unfold cs_row; omega)
  · intro i l hi
    have hlt : i < S.2.1.length := (List.getElem?_eq_some_iff.mp hi).1
    exact lk_at_eq (fun j => eI _ _ (by omega) (by omega)) (hk i l hi)
  · rw [eI _ _ (by omega) (by omega)]; exact k1
  · rw [eI _ _ (by omega) (by omega)]; exact k2
  · rw [eI _ _ (by omega) (by omega)]; exact k3
def cc_s : Nat → List (Nat × Nat)
  | 0 => []
  | i + 1 => cc_s i ++ [(5, 5)]
theorem cc_len : ∀ i, (cc_s i).length = i := by
  intro i
  induction i with
  | zero => rfl
  | succ i ih => simp only [cc_s, List.length_append, ih, List.length_cons, List.length_nil]
def nw_h (a : Nat) (I0 : Nat → Nat → Int32) (R0 : Nat → Nat → Option Nat) (i : Nat) (I : Nat → Nat → Int32) (R : Nat → Nat → Option Nat) : Prop :=
  (∀ x j, a ≤ x → I x j = 0) ∧ (∀ x j, x < a → I x j = I0 x j) ∧ (∀ x j, x < a → R x j = R0 x j) ∧ R a 0 = some (a + 1) ∧ ∀ j, j < i → R (a + 1) j = some (a + 2 + j)
set_option maxHeartbeats 2000000 in
theorem l4 {P0 : List (Nat × Nat)} (hP : P0.length = a + 2) (hPb : P0[a]? = some (4, 8)) (hPk : P0[a + 1]? = some (133, 12))
    (hk : ∀ I R v, nw_h a I0 R0 12 I R → mj_T pj_P 4 43 [.ref a, v] [] (P0 ++ cc_s 12, I, R) Q) :
    ∀ (k i : Nat) (I : Nat → Nat → Int32) (R : Nat → Nat → Option Nat), i + k = 12 → nw_h a I0 R0 i I R → mj_T pj_P 4 15 [.ref a, .int (nI i)] [] (P0 ++ cc_s i, I, R) Q := by
  intro k
  induction k with
  | zero =>
    intro i I R hi hv
    have hin : i = 12 := by omega
    subst hin
    have hS : (P0 ++ cc_s 12)[a]? = some (4, 8) := sh_up hPb
    have hA : (P0 ++ cc_s 12)[a + 1]? = some (133, 12) := sh_up hPk
    have hR := hv.2.2.2.1
    refine mj_b_iload_n (hE := fe_4_15) (hv := rfl) (k := ?_)
    refine mj_b_rload_n (hE := fe_4_16) (hv := rfl) (k := ?_)
    refine mj_b_getQ (hE := fe_4_17) (hM := by assumption) (hv := by assumption) (k := ?_)
    refine mj_b_len (hE := fe_4_20) (hM := hA) (ht := Or.inr (by decide)) (k := ?_)
    refine mj_b_if2 (hE := fe_4_21) (kt := fun g => ?_) (kf := fun g => ?_)
    · exact hk _ _ _ hv
    · exact absurd g (by decide)
  | succ k ih =>
    intro i I R hi hv
    obtain ⟨v1, v2, v3, v4, v8⟩ := hv
    have hlen : (P0 ++ cc_s i).length = a + 2 + i := by rw [List.length_append, hP, cc_len]
    have hS : (P0 ++ cc_s i)[a]? = some (4, 8) := sh_up hPb
    have hA : (P0 ++ cc_s i)[a + 1]? = some (133, 12) := sh_up hPk
    have hrs : P0 ++ cc_s i ++ [(5, 5)] = P0 ++ cc_s (i + 1) := by simp [cc_s]
    refine mj_b_iload_n (hE := fe_4_15) (hv := rfl) (k := ?_)
    refine mj_b_rload_n (hE := fe_4_16) (hv := rfl) (k := ?_)
    refine mj_b_getQ (hE := fe_4_17) (hM := by assumption) (hv := by assumption) (k := ?_)
    refine mj_b_len (hE := fe_4_20) (hM := hA) (ht := Or.inr (by decide)) (k := ?_)
    refine mj_b_if2 (hE := fe_4_21) (kt := fun g => ?_) (kf := fun g => ?_)
    · simp only [mj_cnd, decide_eq_true_eq] at g
      exact absurd g (by rw [show Int32.ofNat 12 = nI 12 from rfl, nI_le_iff (by omega) (by omega)]; omega)
    · refine mj_b_rload_n (hE := fe_4_24) (hv := rfl) (k := ?_)
      refine mj_b_getQ (hE := fe_4_25) (hM := by assumption) (hv := by assumption) (k := ?_)
      refine mj_b_iload_n (hE := fe_4_28) (hv := rfl) (k := ?_)
      refine mj_b_new (hE := fe_4_29) (k := ?_)
      refine mj_b_dup (hE := fe_4_32) (hv := rfl) (k := ?_)
      rw [show (mj_add (P0 ++ cc_s i, I, R) 5 5) = (P0 ++ cc_s (i + 1), mj_n I (a + 2 + i) 0, mj_n R (a + 2 + i) none) from by unfold mj_add; dsimp only; rw [hlen, hrs]]
      dsimp only
      rw [hlen]
      refine mj_b_call (hE := fe_4_33) (hi := in_5) (h1 := g5 _ _) (hc := mj_cok_i rfl rfl) (ha := rfl) (hr := rfl) ?_
      rintro v' M1 hM
      cases hM
      have hA2 : (P0 ++ cc_s (i + 1))[a + 1]? = some (128 + 5, 12) := sh_up hPk
      have hq2 : (P0 ++ cc_s (i + 1))[a + 2 + i]? = some (5, 5) := by rw [← hrs]; exact sh_end hlen
      refine (show mj_T pj_P 4 36 [.ref a, .int (nI i)] [.ref (a + 2 + i), .int (nI i), .ref (a + 1)] (P0 ++ cc_s (i + 1), _, _) Q from ?_)
      refine mj_b_aast (hE := fe_4_36) (u := 5) (hM := hA2) (hq := hq2) (hu := by decide) (hi := mj_ix_nI (show i < 12 by omega) (by decide)) (k := ?_)
      dsimp only
      rw [nI_clamp (by omega)]
      refine mj_b_iinc (hE := fe_4_37) (hv := rfl) (k := ?_)
      refine mj_b_goto (hE := fe_4_40) (k := ?_)
      refine (show mj_T pj_P 4 15 [.ref a, .int (nI i + 1)] [] (P0 ++ cc_s (i + 1), _, _) Q from ?_)
      rw [← nI_succ]
      refine ih (i + 1) _ _ (by omega) ⟨?_, ?_, ?_, ?_, ?_⟩
      · intro x j hx
        by_cases h2 : x = a + 2 + i
        · subst h2; exact mj_n_at _ _ _ _
        · rw [mj_n_off _ _ _ h2]; exact v1 x j hx
      · intro x j hx
        rw [mj_n_off _ _ _ (by omega)]; exact v2 x j hx
      · intro x j hx
        rw [mj_u_na _ _ _ _ (by omega), mj_n_off _ _ _ (by omega)]; exact v3 x j hx
      · rw [mj_u_na _ _ _ _ (by omega), mj_n_off _ _ _ (by omega)]; exact v4
      · intro j hj
        by_cases hji : j = i
        · subst hji; exact mj_u_self _ _ _ _
        · have : ¬ (a + 1 = a + 1 ∧ j = i) := by omega
          rw [mj_u, if_neg this, mj_n_off _ _ _ (by omega)]
          exact v8 j (by omega)
set_option maxHeartbeats 2000000 in
/-- Header.<init> -/
theorem g4 {P0 : List (Nat × Nat)} (hP : P0.length = a + 1) (hPb : P0[a]? = some (4, 8)) (hI : ∀ x j, a ≤ x → I x j = 0) :
    mj_G pj_P 4 [.ref a] (P0, I, R) (fun r => ∃ I' R', r = (none, (P0 ++ [(133, 12)] ++ cc_s 12, I', R')) ∧ (∀ x j, a ≤ x → I' x j = if x = a ∧ j = 5 then -1 else 0) ∧ (∀ x j, x < a → I' x j = I x j) ∧ (∀ x j, x < a → R' x j = R x j) ∧ R' a 0 = some (a + 1) ∧ ∀ j, j < 12 → R' (a + 1) j = some (a + 2 + j)) := by
  refine mj_enter in_4 (L := [.ref a, .retAddr 0]) rfl ?_
  refine mj_b_rload_n (hE := fe_4_0) (hv := rfl) (k := ?_)
  refine mj_b_obj (hE := fe_4_1) (k := ?_)
  refine mj_b_rload_n (hE := fe_4_4) (hv := rfl) (k := ?_)
  refine mj_b_bipush (hE := fe_4_5) (k := ?_)
  refine mj_b_anewarray (hE := fe_4_7) (h0 := by decide) (h1 := by decide) (k := ?_)
  unfold mj_add
  dsimp only
  rw [hP, show Int32.toNatClampNeg 12 = 12 from rfl]
  refine (show mj_T pj_P 4 10 [.ref a, .retAddr 0] [va_rf (some (a + 1)), .ref a] _ _ from ?_)
  have hS1 : (P0 ++ [(133, 12)])[a]? = some (4, 8) := sh_up hPb
  refine mj_b_putR (hE := fe_4_10) (hw := rfl) (v := some (a + 1)) (hM := hS1) (k := ?_)
  refine mj_b_iconst (hE := fe_4_13) (k := ?_)
  refine mj_b_istore_n (hE := fe_4_14) (hx := Nat.le_of_ble_eq_true rfl) (k := ?_)
  dsimp only
  have hsh : P0 ++ [(133, 12)] = P0 ++ [(133, 12)] ++ cc_s 0 := by simp [cc_s]
  have hP2 : (P0 ++ [(133, 12)]).length = a + 2 := by rw [List.length_append, hP]; rfl
  refine (show mj_T pj_P 4 15 [.ref a, .int (nI 0)] [] (P0 ++ [(133, 12)], mj_n I (a + 1) 0, mj_u (mj_n R (a + 1) none) a 0 (some (a + 1))) _ from ?_)
  rw [show ((P0 ++ [(133, 12)], mj_n I (a + 1) 0, mj_u (mj_n R (a + 1) none) a 0 (some (a + 1))) : mj_H) = (P0 ++ [(133, 12)] ++ cc_s 0, mj_n I (a + 1) 0, mj_u (mj_n R (a + 1) none) a 0 (some (a + 1))) from by rw [← hsh]]
  refine l4 (P0 := P0 ++ [(133, 12)]) (I0 := I) (R0 := R) hP2 hS1 (sh_end hP) ?_ 12 0 _ _ (by omega) ⟨?_, ?_, ?_, ?_, fun j hj => by omega⟩
  · intro I1 R1 v hv
    obtain ⟨v1, v2, v3, v4, v8⟩ := hv
    have hSf : (P0 ++ [(133, 12)] ++ cc_s 12)[a]? = some (4, 8) := sh_up hS1
    refine mj_b_rload_n (hE := fe_4_43) (hv := rfl) (k := ?_)
    refine mj_b_iconst (hE := fe_4_44) (k := ?_)
    refine mj_b_putI (hE := fe_4_45) (hw := Or.inl rfl) (hM := hSf) (k := ?_)
    refine mj_b_retV (hE := fe_4_48) (hi := in_4) ⟨_, R1, rfl, ?_, ?_, v3, v4, v8⟩
    · intro x j hx
      by_cases h : x = a ∧ j = 5
      · rw [if_pos h, h.1, h.2]; exact mj_u_self _ _ _ _
      · rw [if_neg h]
        simp only [mj_u, h, if_false]
        exact v1 x j hx
    · intro x j hx
      rw [mj_u_na _ _ _ _ (by omega)]; exact v2 x j hx
  · intro x j hx
    by_cases h1 : x = a + 1
    · subst h1; exact mj_n_at _ _ _ _
    · rw [mj_n_off _ _ _ h1]; exact hI x j hx
  · intro x j hx
    rw [mj_n_off _ _ _ (by omega)]
  · intro x j hx
    rw [mj_u_na _ _ _ _ (by omega), mj_n_off _ _ _ (by omega)]
  · exact mj_u_self _ _ _ _
end KB
