/-! ===== the constructors ===== -/
theorem mj_n_off {α : Type} (f : Nat → Nat → α) {a b : Nat} (v : α) (j : Nat) (h : b ≠ a) : mj_n f a v b j = f b j := by simp [mj_n, h]
theorem mj_n_at {α : Type} (f : Nat → Nat → α) (a : Nat) (v : α) (j : Nat) : mj_n f a v a j = v := by simp [mj_n]
theorem sh_end {A : List (Nat × Nat)} {q : Nat × Nat} {k : Nat} (h : A.length = k) : (A ++ [q])[k]? = some q := by
  subst h
  simp
theorem sh_up {A B : List (Nat × Nat)} {q : Nat × Nat} {k : Nat} (h : A[k]? = some q) : (A ++ B)[k]? = some q := by
  rw [List.getElem?_append_left (List.getElem?_eq_some_iff.mp h).1]
  exact h
section KA
variable {Sh : List (Nat × Nat)} {I I0 : Nat → Nat → Int32} {R R0 : Nat → Nat → Option Nat} {b a : Nat} {Q : Option Value × mj_H → Prop}
theorem g3 (M : mj_H) (a : Nat) : mj_G pj_P 3 [.ref a] M (fun r => r = (none, M)) := by
  refine mj_enter in_3 (L := [.ref a]) rfl ?_
  refine mj_b_rload_n (hE := fe_3_0) (hv := rfl) (k := ?_)
  refine mj_b_obj (hE := fe_3_1) (k := ?_)
  exact mj_b_retV (hE := fe_3_4) (hi := in_3) rfl
theorem g5 (M : mj_H) (a : Nat) : mj_G pj_P 5 [.ref a] M (fun r => r = (none, M)) := by
  refine mj_enter in_5 (L := [.ref a]) rfl ?_
  refine mj_b_rload_n (hE := fe_5_0) (hv := rfl) (k := ?_)
  refine mj_b_obj (hE := fe_5_1) (k := ?_)
  exact mj_b_retV (hE := fe_5_4) (hi := in_5) rfl
theorem g2 (hS : Sh[a]? = some (2, 5)) : mj_G pj_P 2 [.ref a] (Sh, I, R) (fun r => r = (none, (Sh ++ [(65, 3)], mj_n I Sh.length 0, mj_u (mj_n R Sh.length none) a 4 (some Sh.length)))) := by
  refine mj_enter in_2 (L := [.ref a]) rfl ?_
  refine mj_b_rload_n (hE := fe_2_0) (hv := rfl) (k := ?_)
  refine mj_b_obj (hE := fe_2_1) (k := ?_)
  refine mj_b_rload_n (hE := fe_2_4) (hv := rfl) (k := ?_)
  refine mj_b_iconst (hE := fe_2_5) (k := ?_)
  refine mj_b_newarray (hE := fe_2_6) (h0 := by decide) (h1 := by decide) (k := ?_)
  refine (show mj_T pj_P 2 8 [.ref a] [va_rf (some Sh.length), .ref a] (Sh ++ [(65, 3)], mj_n I Sh.length 0, mj_n R Sh.length none) _ from ?_)
  refine mj_b_putR (hE := fe_2_8) (hw := rfl) (v := some Sh.length) (hM := sh_up hS) (k := ?_)
  exact mj_b_retV (hE := fe_2_11) (hi := in_2) rfl
def rr_s : Nat → List (Nat × Nat)
  | 0 => []
  | i + 1 => rr_s i ++ [(2, 5), (65, 3)]
theorem rr_len : ∀ i, (rr_s i).length = 2 * i := by
  intro i
  induction i with
  | zero => rfl
  | succ i ih => simp only [rr_s, List.length_append, ih, List.length_cons, List.length_nil]; omega
/-- the rows of a new store, up to i -/
def nw_a (b : Nat) (I0 : Nat → Nat → Int32) (R0 : Nat → Nat → Option Nat) (i : Nat) (I : Nat → Nat → Int32) (R : Nat → Nat → Option Nat) : Prop :=
  (∀ x j, b ≤ x → I x j = 0) ∧ (∀ x j, x < b → I x j = I0 x j) ∧ (∀ x j, x < b → R x j = R0 x j) ∧ R b 0 = some (b + 1) ∧ R b 2 = some (b + 2) ∧ (∀ j, j < i → R (b + 1) j = some (b + 3 + 2 * j)) ∧ ∀ j, j < i → R (b + 3 + 2 * j) 4 = some (b + 4 + 2 * j)
set_option maxHeartbeats 2000000 in
theorem l1a {P0 : List (Nat × Nat)} (hP : P0.length = b + 1) (hPb : P0[b]? = some (1, 7))
    (hk : ∀ I R v, nw_a b I0 R0 13 I R → mj_T pj_P 1 52 [.ref b, v] [] (P0 ++ [(130, 13), (131, 6)] ++ rr_s 13, I, R) Q) :
    ∀ (k i : Nat) (I : Nat → Nat → Int32) (R : Nat → Nat → Option Nat), i + k = 13 → nw_a b I0 R0 i I R → mj_T pj_P 1 24 [.ref b, .int (nI i)] [] (P0 ++ [(130, 13), (131, 6)] ++ rr_s i, I, R) Q := by
  intro k
  induction k with
  | zero =>
    intro i I R hi hv
    have hin : i = 13 := by omega
    subst hin
    have hS : (P0 ++ [(130, 13), (131, 6)] ++ rr_s 13)[b]? = some (1, 7) := sh_up (sh_up hPb)
    have hA : (P0 ++ [(130, 13), (131, 6)] ++ rr_s 13)[b + 1]? = some (130, 13) := sh_up (by rw [List.getElem?_append_right (by omega), hP]; simp)
    have hR := hv.2.2.2.1
    refine mj_b_iload_n (hE := fe_1_24) (hv := rfl) (k := ?_)
    refine mj_b_rload_n (hE := fe_1_25) (hv := rfl) (k := ?_)
    refine mj_b_getQ (hE := fe_1_26) (hM := by assumption) (hv := by assumption) (k := ?_)
    refine mj_b_len (hE := fe_1_29) (hM := hA) (ht := Or.inr (by decide)) (k := ?_)
    refine mj_b_if2 (hE := fe_1_30) (kt := fun g => ?_) (kf := fun g => ?_)
    · exact hk _ _ _ hv
    · exact absurd g (by decide)
  | succ k ih =>
    intro i I R hi hv
    have hv0 := hv
    obtain ⟨v1, v2, v3, v4, v5, v6, v7⟩ := hv
    have hlen : (P0 ++ [(130, 13), (131, 6)] ++ rr_s i).length = b + 3 + 2 * i := by
      rw [List.length_append, List.length_append, hP, rr_len]
      simp only [List.length_cons, List.length_nil]
    have hS : (P0 ++ [(130, 13), (131, 6)] ++ rr_s i)[b]? = some (1, 7) := sh_up (sh_up hPb)
    have hA : (P0 ++ [(130, 13), (131, 6)] ++ rr_s i)[b + 1]? = some (130, 13) := sh_up (by rw [List.getElem?_append_right (by omega), hP]; simp)
    have hrs : P0 ++ [(130, 13), (131, 6)] ++ rr_s i ++ [(2, 5)] ++ [(65, 3)] = P0 ++ [(130, 13), (131, 6)] ++ rr_s (i + 1) := by simp [rr_s]
    refine mj_b_iload_n (hE := fe_1_24) (hv := rfl) (k := ?_)
    refine mj_b_rload_n (hE := fe_1_25) (hv := rfl) (k := ?_)
    refine mj_b_getQ (hE := fe_1_26) (hM := by assumption) (hv := by assumption) (k := ?_)
    refine mj_b_len (hE := fe_1_29) (hM := hA) (ht := Or.inr (by decide)) (k := ?_)
    refine mj_b_if2 (hE := fe_1_30) (kt := fun g => ?_) (kf := fun g => ?_)
    · simp only [mj_cnd, decide_eq_true_eq] at g
      exact absurd g (by rw [show Int32.ofNat 13 = nI 13 from rfl, nI_le_iff (by omega) (by omega)]; omega)
    · refine mj_b_rload_n (hE := fe_1_33) (hv := rfl) (k := ?_)
      refine mj_b_getQ (hE := fe_1_34) (hM := by assumption) (hv := by assumption) (k := ?_)
      refine mj_b_iload_n (hE := fe_1_37) (hv := rfl) (k := ?_)
      refine mj_b_new (hE := fe_1_38) (k := ?_)
      refine mj_b_dup (hE := fe_1_41) (hv := rfl) (k := ?_)
      rw [show (mj_add (P0 ++ [(130, 13), (131, 6)] ++ rr_s i, I, R) 2 5) = (P0 ++ [(130, 13), (131, 6)] ++ rr_s i ++ [(2, 5)], mj_n I (b + 3 + 2 * i) 0, mj_n R (b + 3 + 2 * i) none) from by unfold mj_add; dsimp only; rw [hlen]]
      dsimp only
      rw [hlen]
      have h2 := g2 (a := b + 3 + 2 * i) (Sh := P0 ++ [(130, 13), (131, 6)] ++ rr_s i ++ [(2, 5)]) (I := mj_n I (b + 3 + 2 * i) 0) (R := mj_n R (b + 3 + 2 * i) none) (sh_end hlen)
      have hl2 : (P0 ++ [(130, 13), (131, 6)] ++ rr_s i ++ [(2, 5)]).length = b + 4 + 2 * i := by rw [List.length_append, hlen]; simp only [List.length_cons, List.length_nil]; omega
      rw [hl2, hrs] at h2
      refine mj_b_call (hE := fe_1_42) (hi := in_2) (h1 := h2) (hc := mj_cok_i rfl rfl) (ha := rfl) (hr := rfl) ?_
      rintro v' M1 hM
      cases hM
      have hA2 : (P0 ++ [(130, 13), (131, 6)] ++ rr_s (i + 1))[b + 1]? = some (128 + 2, 13) := sh_up (by rw [List.getElem?_append_right (by omega), hP]; simp)
      have hq2 : (P0 ++ [(130, 13), (131, 6)] ++ rr_s (i + 1))[b + 3 + 2 * i]? = some (2, 5) := by rw [← hrs]; exact sh_up (sh_end hlen)
      refine (show mj_T pj_P 1 45 [.ref b, .int (nI i)] [.ref (b + 3 + 2 * i), .int (nI i), .ref (b + 1)] (P0 ++ [(130, 13), (131, 6)] ++ rr_s (i + 1), _, _) Q from ?_)
      refine mj_b_aast (hE := fe_1_45) (u := 2) (hM := hA2) (hq := hq2) (hu := by decide) (hi := mj_ix_nI (show i < 13 by omega) (by decide)) (k := ?_)
      dsimp only
      rw [nI_clamp (by omega)]
      refine mj_b_iinc (hE := fe_1_46) (hv := rfl) (k := ?_)
      refine mj_b_goto (hE := fe_1_49) (k := ?_)
      refine (show mj_T pj_P 1 24 [.ref b, .int (nI i + 1)] [] (P0 ++ [(130, 13), (131, 6)] ++ rr_s (i + 1), _, _) Q from ?_)
      rw [← nI_succ]
      refine ih (i + 1) _ _ (by omega) ⟨?_, ?_, ?_, ?_, ?_, ?_, ?_⟩
      · intro x j hx
        by_cases h1 : x = b + 4 + 2 * i
        · subst h1; exact mj_n_at _ _ _ _
        · rw [mj_n_off _ _ _ h1]
          by_cases h2 : x = b + 3 + 2 * i
          · subst h2; exact mj_n_at _ _ _ _
          · rw [mj_n_off _ _ _ h2]; exact v1 x j hx
      · intro x j hx
        rw [mj_n_off _ _ _ (by omega), mj_n_off _ _ _ (by omega)]; exact v2 x j hx
      · intro x j hx
        rw [mj_u_na _ _ _ _ (by omega), mj_u_na _ _ _ _ (by omega), mj_n_off _ _ _ (by omega), mj_n_off _ _ _ (by omega)]; exact v3 x j hx
      · rw [mj_u_na _ _ _ _ (by omega), mj_u_na _ _ _ _ (by omega), mj_n_off _ _ _ (by omega), mj_n_off _ _ _ (by omega)]; exact v4
      · rw [mj_u_na _ _ _ _ (by omega), mj_u_na _ _ _ _ (by omega), mj_n_off _ _ _ (by omega), mj_n_off _ _ _ (by omega)]; exact v5
      · intro j hj
        by_cases hji : j = i
        · subst hji; exact mj_u_self _ _ _ _
        · have : ¬ (b + 1 = b + 1 ∧ j = i) := by omega
          rw [mj_u, if_neg this, mj_u_na _ _ _ _ (by omega), mj_n_off _ _ _ (by omega), mj_n_off _ _ _ (by omega)]
          exact v6 j (by omega)
      · intro j hj
        rw [mj_u_na _ _ _ _ (by omega)]
        by_cases hji : j = i
        · subst hji; exact mj_u_self _ _ _ _
        · rw [mj_u_na _ _ _ _ (by omega), mj_n_off _ _ _ (by omega), mj_n_off _ _ _ (by omega)]
          exact v7 j (by omega)
def ll_s : Nat → List (Nat × Nat)
  | 0 => []
  | i + 1 => ll_s i ++ [(3, 5)]
theorem ll_len : ∀ i, (ll_s i).length = i := by
  intro i
  induction i with
  | zero => rfl
  | succ i ih => simp only [ll_s, List.length_append, ih, List.length_cons, List.length_nil]
def nw_b (b : Nat) (I0 : Nat → Nat → Int32) (R0 : Nat → Nat → Option Nat) (i : Nat) (I : Nat → Nat → Int32) (R : Nat → Nat → Option Nat) : Prop :=
  nw_a b I0 R0 13 I R ∧ ∀ j, j < i → R (b + 2) j = some (b + 29 + j)
set_option maxHeartbeats 2000000 in
theorem l1b {P0 : List (Nat × Nat)} (hP : P0.length = b + 29) (hPb : P0[b]? = some (1, 7)) (hPk : P0[b + 2]? = some (131, 6))
    (hk : ∀ I R v, nw_b b I0 R0 6 I R → mj_T pj_P 1 82 [.ref b, v] [] (P0 ++ ll_s 6, I, R) Q) :
    ∀ (k i : Nat) (I : Nat → Nat → Int32) (R : Nat → Nat → Option Nat), i + k = 6 → nw_b b I0 R0 i I R → mj_T pj_P 1 54 [.ref b, .int (nI i)] [] (P0 ++ ll_s i, I, R) Q := by
  intro k
  induction k with
  | zero =>
    intro i I R hi hv
    have hin : i = 6 := by omega
    subst hin
    have hS : (P0 ++ ll_s 6)[b]? = some (1, 7) := sh_up hPb
    have hA : (P0 ++ ll_s 6)[b + 2]? = some (131, 6) := sh_up hPk
    have hR := hv.1.2.2.2.2.1
    refine mj_b_iload_n (hE := fe_1_54) (hv := rfl) (k := ?_)
    refine mj_b_rload_n (hE := fe_1_55) (hv := rfl) (k := ?_)
    refine mj_b_getQ (hE := fe_1_56) (hM := by assumption) (hv := by assumption) (k := ?_)
    refine mj_b_len (hE := fe_1_59) (hM := hA) (ht := Or.inr (by decide)) (k := ?_)
    refine mj_b_if2 (hE := fe_1_60) (kt := fun g => ?_) (kf := fun g => ?_)
    · exact hk _ _ _ hv
    · exact absurd g (by decide)
  | succ k ih =>
    intro i I R hi hv
    obtain ⟨⟨v1, v2, v3, v4, v5, v6, v7⟩, v8⟩ := hv
    have hlen : (P0 ++ ll_s i).length = b + 29 + i := by rw [List.length_append, hP, ll_len]
    have hS : (P0 ++ ll_s i)[b]? = some (1, 7) := sh_up hPb
    have hA : (P0 ++ ll_s i)[b + 2]? = some (131, 6) := sh_up hPk
    have hrs : P0 ++ ll_s i ++ [(3, 5)] = P0 ++ ll_s (i + 1) := by simp [ll_s]
    refine mj_b_iload_n (hE := fe_1_54) (hv := rfl) (k := ?_)
    refine mj_b_rload_n (hE := fe_1_55) (hv := rfl) (k := ?_)
    refine mj_b_getQ (hE := fe_1_56) (hM := by assumption) (hv := by assumption) (k := ?_)
    refine mj_b_len (hE := fe_1_59) (hM := hA) (ht := Or.inr (by decide)) (k := ?_)
    refine mj_b_if2 (hE := fe_1_60) (kt := fun g => ?_) (kf := fun g => ?_)
    · simp only [mj_cnd, decide_eq_true_eq] at g
      exact absurd g (by rw [show Int32.ofNat 6 = nI 6 from rfl, nI_le_iff (by omega) (by omega)]; omega)
    · refine mj_b_rload_n (hE := fe_1_63) (hv := rfl) (k := ?_)
      refine mj_b_getQ (hE := fe_1_64) (hM := by assumption) (hv := by assumption) (k := ?_)
      refine mj_b_iload_n (hE := fe_1_67) (hv := rfl) (k := ?_)
      refine mj_b_new (hE := fe_1_68) (k := ?_)
      refine mj_b_dup (hE := fe_1_71) (hv := rfl) (k := ?_)
      rw [show (mj_add (P0 ++ ll_s i, I, R) 3 5) = (P0 ++ ll_s (i + 1), mj_n I (b + 29 + i) 0, mj_n R (b + 29 + i) none) from by unfold mj_add; dsimp only; rw [hlen, hrs]]
      dsimp only
      rw [hlen]
      refine mj_b_call (hE := fe_1_72) (hi := in_3) (h1 := g3 _ _) (hc := mj_cok_i rfl rfl) (ha := rfl) (hr := rfl) ?_
      rintro v' M1 hM
      cases hM
      have hA2 : (P0 ++ ll_s (i + 1))[b + 2]? = some (128 + 3, 6) := sh_up hPk
      have hq2 : (P0 ++ ll_s (i + 1))[b + 29 + i]? = some (3, 5) := by rw [← hrs]; exact sh_end hlen
      refine (show mj_T pj_P 1 75 [.ref b, .int (nI i)] [.ref (b + 29 + i), .int (nI i), .ref (b + 2)] (P0 ++ ll_s (i + 1), _, _) Q from ?_)
      refine mj_b_aast (hE := fe_1_75) (u := 3) (hM := hA2) (hq := hq2) (hu := by decide) (hi := mj_ix_nI (show i < 6 by omega) (by decide)) (k := ?_)
      dsimp only
      rw [nI_clamp (by omega)]
      refine mj_b_iinc (hE := fe_1_76) (hv := rfl) (k := ?_)
      refine mj_b_goto (hE := fe_1_79) (k := ?_)
      refine (show mj_T pj_P 1 54 [.ref b, .int (nI i + 1)] [] (P0 ++ ll_s (i + 1), _, _) Q from ?_)
      rw [← nI_succ]
      refine ih (i + 1) _ _ (by omega) ⟨⟨?_, ?_, ?_, ?_, ?_, ?_, ?_⟩, ?_⟩
      · intro x j hx
        by_cases h2 : x = b + 29 + i
        · subst h2; exact mj_n_at _ _ _ _
        · rw [mj_n_off _ _ _ h2]; exact v1 x j hx
      · intro x j hx
        rw [mj_n_off _ _ _ (by omega)]; exact v2 x j hx
      · intro x j hx
        rw [mj_u_na _ _ _ _ (by omega), mj_n_off _ _ _ (by omega)]; exact v3 x j hx
      · rw [mj_u_na _ _ _ _ (by omega), mj_n_off _ _ _ (by omega)]; exact v4
      · rw [mj_u_na _ _ _ _ (by omega), mj_n_off _ _ _ (by omega)]; exact v5
      · intro j hj
        rw [mj_u_na _ _ _ _ (by omega), mj_n_off _ _ _ (by omega)]; exact v6 j hj
      · intro j hj
        rw [mj_u_na _ _ _ _ (by omega), mj_n_off _ _ _ (by omega)]; exact v7 j hj
      · intro j hj
        by_cases hji : j = i
        · subst hji; exact mj_u_self _ _ _ _
        · have : ¬ (b + 2 = b + 2 ∧ j = i) := by omega
          rw [mj_u, if_neg this, mj_n_off _ _ _ (by omega)]
          exact v8 j (by omega)
/-- a new store -/
def nw_s (b : Nat) (I0 : Nat → Nat → Int32) (R0 : Nat → Nat → Option Nat) (I : Nat → Nat → Int32) (R : Nat → Nat → Option Nat) : Prop :=
  (b = 2 ∨ b = 37 → cs_rep b (fun i => i) ([(0, 2, 0, 0, 0, 0, 0)], [], 0, 1, 1) I R) ∧ (∀ x j, x < b → I x j = I0 x j) ∧ (∀ x j, x < b → R x j = R0 x j) ∧ ∀ x j, b + 35 ≤ x → I x j = 0
set_option maxHeartbeats 2000000 in
/-- Store.<init> -/
theorem g1 {P0 : List (Nat × Nat)} (hP : P0.length = b + 1) (hPb : P0[b]? = some (1, 7)) (hI : ∀ x j, b ≤ x → I x j = 0) :
    mj_G pj_P 1 [.ref b] (P0, I, R) (fun r => ∃ I' R', r = (none, (P0 ++ [(130, 13), (131, 6)] ++ mz_rows ++ [(3, 5), (3, 5), (3, 5), (3, 5), (3, 5), (3, 5)], I', R')) ∧ nw_s b I R I' R') := by
  refine mj_enter in_1 (L := [.ref b, .retAddr 0]) rfl ?_
  refine mj_b_rload_n (hE := fe_1_0) (hv := rfl) (k := ?_)
  refine mj_b_obj (hE := fe_1_1) (k := ?_)
  refine mj_b_rload_n (hE := fe_1_4) (hv := rfl) (k := ?_)
  refine mj_b_bipush (hE := fe_1_5) (k := ?_)
  refine mj_b_anewarray (hE := fe_1_7) (h0 := by decide) (h1 := by decide) (k := ?_)
  refine (show mj_T pj_P 1 10 [.ref b, .retAddr 0] [va_rf (some P0.length), .ref b] (P0 ++ [(130, 13)], mj_n I P0.length 0, mj_n R P0.length none) _ from ?_)
  rw [hP]
  have hS1 : (P0 ++ [(130, 13)])[b]? = some (1, 7) := sh_up hPb
  refine mj_b_putR (hE := fe_1_10) (hw := rfl) (v := some (b + 1)) (hM := hS1) (k := ?_)
  refine mj_b_rload_n (hE := fe_1_13) (hv := rfl) (k := ?_)
  refine mj_b_bipush (hE := fe_1_14) (k := ?_)
  refine mj_b_anewarray (hE := fe_1_16) (h0 := by decide) (h1 := by decide) (k := ?_)
  have hl2 : (P0 ++ [(130, 13)]).length = b + 2 := by rw [List.length_append, hP]; rfl
  unfold mj_add
  dsimp only
  rw [hl2, show Int32.toNatClampNeg 6 = 6 from rfl]
  refine (show mj_T pj_P 1 19 [.ref b, .retAddr 0] [va_rf (some (b + 2)), .ref b] _ _ from ?_)
  have hS2 : (P0 ++ [(130, 13)] ++ [(131, 6)])[b]? = some (1, 7) := sh_up hS1
  refine mj_b_putR (hE := fe_1_19) (hw := rfl) (v := some (b + 2)) (hM := hS2) (k := ?_)
  refine mj_b_iconst (hE := fe_1_22) (k := ?_)
  refine mj_b_istore_n (hE := fe_1_23) (hx := Nat.le_of_ble_eq_true rfl) (k := ?_)
  have hsh : P0 ++ [(130, 13)] ++ [(131, 6)] = P0 ++ [(130, 13), (131, 6)] ++ rr_s 0 := by simp [rr_s]
  dsimp only
  rw [hsh]
  refine l1a (I0 := I) (R0 := R) hP hPb ?_ 13 0 _ _ (by omega) ⟨?_, ?_, ?_, ?_, ?_, fun j hj => by omega, fun j hj => by omega⟩
  · intro I1 R1 v hv
    have hP2 : (P0 ++ [(130, 13), (131, 6)] ++ rr_s 13).length = b + 29 := by
      rw [List.length_append, List.length_append, hP, rr_len]
      simp only [List.length_cons, List.length_nil]
    have hPk : (P0 ++ [(130, 13), (131, 6)] ++ rr_s 13)[b + 2]? = some (131, 6) := sh_up (by rw [List.getElem?_append_right (by omega), hP, show b + 2 - (b + 1) = 1 by omega]; rfl)
    refine mj_b_iconst (hE := fe_1_52) (k := ?_)
    refine mj_b_istore_n (hE := fe_1_53) (hx := Nat.le_of_ble_eq_true rfl) (k := ?_)
    have hsh2 : P0 ++ [(130, 13), (131, 6)] ++ rr_s 13 = P0 ++ [(130, 13), (131, 6)] ++ rr_s 13 ++ ll_s 0 := by simp [ll_s]
    rw [hsh2]
    refine l1b (P0 := P0 ++ [(130, 13), (131, 6)] ++ rr_s 13) (I0 := I) (R0 := R) hP2 (sh_up (sh_up hPb)) hPk ?_ 6 0 I1 R1 (by omega) ⟨hv, fun j hj => by omega⟩
    intro I2 R2 v hv2
    have hsh3 : P0 ++ [(130, 13), (131, 6)] ++ rr_s 13 ++ ll_s 6 = P0 ++ [(130, 13), (131, 6)] ++ mz_rows ++ [(3, 5), (3, 5), (3, 5), (3, 5), (3, 5), (3, 5)] := rfl
    rw [hsh3]
    obtain ⟨⟨v1, v2, v3, v4, v5, v6, v7⟩, v8⟩ := hv2
    have hSf : (P0 ++ [(130, 13), (131, 6)] ++ mz_rows ++ [(3, 5), (3, 5), (3, 5), (3, 5), (3, 5), (3, 5)])[b]? = some (1, 7) := sh_up (sh_up (sh_up hPb))
    have hAf : (P0 ++ [(130, 13), (131, 6)] ++ mz_rows ++ [(3, 5), (3, 5), (3, 5), (3, 5), (3, 5), (3, 5)])[b + 1]? = some (130, 13) := sh_up (sh_up (by rw [List.getElem?_append_right (by omega), hP]; simp))
    have hRf : (P0 ++ [(130, 13), (131, 6)] ++ mz_rows ++ [(3, 5), (3, 5), (3, 5), (3, 5), (3, 5), (3, 5)])[b + 3]? = some (2, 5) := by
      refine sh_up ?_
      rw [List.getElem?_append_right (by rw [List.length_append, hP]; simp only [List.length_cons, List.length_nil]; omega), List.length_append, hP]
      rw [show b + 3 - (b + 1 + [((130 : Nat), (13 : Nat)), (131, 6)].length) = 0 by simp only [List.length_cons, List.length_nil]; omega]
      rfl
    have r60 := v6 0 (by omega)
    refine mj_b_rload_n (hE := fe_1_82) (hv := rfl) (k := ?_)
    refine mj_b_getQ (hE := fe_1_83) (hM := by assumption) (hv := by assumption) (k := ?_)
    refine mj_b_iconst (hE := fe_1_86) (k := ?_)
    refine mj_b_aaldQ (hE := fe_1_87) (c := 0) (hM := hAf) (ht := by decide) (hj := rfl) (hc := by decide) (hn := by decide) (hv := r60) (k := ?_)
    refine mj_b_iconst (hE := fe_1_88) (k := ?_)
    refine mj_b_putI (hE := fe_1_89) (hw := Or.inl rfl) (hM := hRf) (k := ?_)
    refine mj_b_rload_n (hE := fe_1_92) (hv := rfl) (k := ?_)
    refine mj_b_iconst (hE := fe_1_93) (k := ?_)
    refine mj_b_putI (hE := fe_1_94) (hw := Or.inl rfl) (hM := hSf) (k := ?_)
    refine mj_b_rload_n (hE := fe_1_97) (hv := rfl) (k := ?_)
    refine mj_b_iconst (hE := fe_1_98) (k := ?_)
    refine mj_b_putI (hE := fe_1_99) (hw := Or.inl rfl) (hM := hSf) (k := ?_)
    refine mj_b_rload_n (hE := fe_1_102) (hv := rfl) (k := ?_)
    refine mj_b_iconst (hE := fe_1_103) (k := ?_)
    refine mj_b_putI (hE := fe_1_104) (hw := Or.inl rfl) (hM := hSf) (k := ?_)
    refine mj_b_retV (hE := fe_1_107) (hi := in_1) ⟨_, R2, rfl, ?_, ?_, v3, ?_⟩
    · intro hb
      refine ⟨hb, ⟨v4, v5, fun i hi => ⟨v6 i hi, hi⟩, v8, v7, fun i j _ _ e => e⟩, ⟨?_, by simp⟩, ⟨?_, by simp⟩, ?_, by simp, ?_, ?_, ?_⟩
      · simp [mj_u]; rfl
      · simp [mj_u, v1]; rfl
      · intro i r hi
        have hi0 : i = 0 := by
          have := (List.getElem?_eq_some_iff.mp hi).1
          simpa using this
        subst hi0
        simp only [List.getElem?_cons_zero, Option.some.injEq] at hi
        rw [← hi]
        have e1 : ¬ b + 3 = b := by omega
        have e2 : ¬ b + 3 + 1 = b := by omega
        simp [rw_at, cs_row, mj_u, e1, e2, v1]
        exact ⟨v1 _ _ (by omega), v1 _ _ (by omega), v1 _ _ (by omega)⟩
      · simp [mj_u, v1]
      · simp [mj_u]
      · simp [mj_u]
    · intro x j hx
      have e1 : ¬ x = b := by omega
      have e2 : ¬ x = b + 3 := by omega
      simp [mj_u, e1, e2]
      exact v2 x j hx
    · intro x j hx
      have e1 : ¬ x = b := by omega
      have e2 : ¬ x = b + 3 := by omega
      simp [mj_u, e1, e2]
      exact v1 x j (by omega)
  · intro x j hx
    by_cases h2 : x = b + 2
    · subst h2; exact mj_n_at _ _ _ _
    · rw [mj_n_off _ _ _ h2]
      by_cases h1 : x = b + 1
      · subst h1; exact mj_n_at _ _ _ _
      · rw [mj_n_off _ _ _ h1]; exact hI x j hx
  · intro x j hx
    rw [mj_n_off _ _ _ (by omega), mj_n_off _ _ _ (by omega)]
  · intro x j hx
    rw [mj_u_na _ _ _ _ (by omega), mj_n_off _ _ _ (by omega), mj_u_na _ _ _ _ (by omega), mj_n_off _ _ _ (by omega)]
  · have : ¬ (b = b ∧ 0 = 2) := by omega
    rw [mj_u, if_neg this, mj_n_off _ _ _ (by omega)]
    exact mj_u_self _ _ _ _
  · exact mj_u_self _ _ _ _
end KA
