/-! ===== the class and the model are made; the law ===== -/
section KC
variable {L : Nat} {X : Nat → Int32} {I : Nat → Nat → Int32} {R : Nat → Nat → Option Nat} {Q : Option Value × mj_H → Prop}
def H_0 : ty_hd := ([], 0, 0, 0, -1, 0, 0)
def S_0 : ty_st := ([(0, 2, 0, 0, 0, 0, 0)], [], 0, 1, 1)
def sh_c (L : Nat) : List (Nat × Nat) := [(64, L), (0, 7)] ++ mz_store ++ mz_store ++ [(4, 8), (133, 12), (5, 5), (5, 5), (5, 5), (5, 5), (5, 5), (5, 5), (5, 5), (5, 5), (5, 5), (5, 5), (5, 5), (5, 5), (65, 12)]
set_option maxHeartbeats 4000000 in
/-- LockedTree.<init> -/
theorem g0 (hI : ∀ x j, 1 ≤ x → I x j = 0) :
    mj_G pj_P 0 [.ref 1] ([(64, L), (0, 7)], I, R) (fun r => ∃ I' R', r = (none, (sh_c L, I', R')) ∧ c_all 2 37 (fun i => i) (fun i => i) S_0 H_0 (-1) 0 [] I' R' ∧ (∀ j, I' 0 j = I 0 j) ∧ ∀ x j, 87 ≤ x → I' x j = 0) := by
  refine mj_enter in_0 (L := [.ref 1]) rfl ?_
  refine mj_b_rload_n (hE := fe_0_0) (hv := rfl) (k := ?_)
  refine mj_b_obj (hE := fe_0_1) (k := ?_)
  refine mj_b_rload_n (hE := fe_0_4) (hv := rfl) (k := ?_)
  refine mj_b_new (hE := fe_0_5) (k := ?_)
  refine mj_b_dup (hE := fe_0_8) (hv := rfl) (k := ?_)
  refine (show mj_T pj_P 0 9 [.ref 1] [.ref 2, .ref 2, .ref 1] ([(64, L), (0, 7), (1, 7)], mj_n I 2 0, mj_n R 2 none) _ from ?_)
  have i1 : ∀ x j, 2 ≤ x → mj_n I 2 0 x j = 0 := fun x j hx => by
    by_cases h : x = 2
    · subst h; exact mj_n_at _ _ _ _
    · rw [mj_n_off _ _ _ h]; exact hI x j (by omega)
  refine mj_b_call (hE := fe_0_9) (hi := in_1) (h1 := g1 (b := 2) (P0 := [(64, L), (0, 7), (1, 7)]) rfl rfl i1) (hc := mj_cok_i rfl rfl) (ha := rfl) (hr := rfl) ?_
  rintro v' M1 ⟨I1, R1, hM, s1, s2, s3, s4⟩
  cases hM
  have c1 : ([(64, L), (0, 7)] ++ mz_store : List (Nat × Nat))[1]? = some (0, 7) := rfl
  refine (show mj_T pj_P 0 12 [.ref 1] [va_rf (some 2), .ref 1] ([(64, L), (0, 7)] ++ mz_store, I1, R1) _ from ?_)
  refine mj_b_putR (hE := fe_0_12) (hw := rfl) (v := some 2) (hM := c1) (k := ?_)
  refine mj_b_rload_n (hE := fe_0_15) (hv := rfl) (k := ?_)
  refine mj_b_new (hE := fe_0_16) (k := ?_)
  refine mj_b_dup (hE := fe_0_19) (hv := rfl) (k := ?_)
  refine (show mj_T pj_P 0 20 [.ref 1] [.ref 37, .ref 37, .ref 1] ([(64, L), (0, 7)] ++ mz_store ++ [(1, 7)], mj_n I1 37 0, mj_n (mj_u R1 1 0 (some 2)) 37 none) _ from ?_)
  have i2 : ∀ x j, 37 ≤ x → mj_n I1 37 0 x j = 0 := fun x j hx => by
    by_cases h : x = 37
    · subst h; exact mj_n_at _ _ _ _
    · rw [mj_n_off _ _ _ h]; exact s4 x j (by omega)
  refine mj_b_call (hE := fe_0_20) (hi := in_1) (h1 := g1 (b := 37) (P0 := [(64, L), (0, 7)] ++ mz_store ++ [(1, 7)]) rfl rfl i2) (hc := mj_cok_i rfl rfl) (ha := rfl) (hr := rfl) ?_
  rintro v' M1 ⟨I2, R2, hM, t1, t2, t3, t4⟩
  cases hM
  have c2 : ([(64, L), (0, 7)] ++ mz_store ++ mz_store : List (Nat × Nat))[1]? = some (0, 7) := rfl
  refine (show mj_T pj_P 0 23 [.ref 1] [va_rf (some 37), .ref 1] ([(64, L), (0, 7)] ++ mz_store ++ mz_store, I2, R2) _ from ?_)
  refine mj_b_putR (hE := fe_0_23) (hw := rfl) (v := some 37) (hM := c2) (k := ?_)
  refine mj_b_rload_n (hE := fe_0_26) (hv := rfl) (k := ?_)
  refine mj_b_new (hE := fe_0_27) (k := ?_)
  refine mj_b_dup (hE := fe_0_30) (hv := rfl) (k := ?_)
  refine (show mj_T pj_P 0 31 [.ref 1] [.ref 72, .ref 72, .ref 1] ([(64, L), (0, 7)] ++ mz_store ++ mz_store ++ [(4, 8)], mj_n I2 72 0, mj_n (mj_u R2 1 1 (some 37)) 72 none) _ from ?_)
  have i3 : ∀ x j, 72 ≤ x → mj_n I2 72 0 x j = 0 := fun x j hx => by
    by_cases h : x = 72
    · subst h; exact mj_n_at _ _ _ _
    · rw [mj_n_off _ _ _ h]; exact t4 x j (by omega)
  refine mj_b_call (hE := fe_0_31) (hi := in_4) (h1 := g4 (a := 72) (P0 := [(64, L), (0, 7)] ++ mz_store ++ mz_store ++ [(4, 8)]) rfl rfl i3) (hc := mj_cok_i rfl rfl) (ha := rfl) (hr := rfl) ?_
  rintro v' M1 ⟨I3, R3, hM, u1, u2, u3, u4, u5⟩
  cases hM
  have c3 : ([(64, L), (0, 7)] ++ mz_store ++ mz_store ++ [(4, 8)] ++ [(133, 12)] ++ cc_s 12 : List (Nat × Nat))[1]? = some (0, 7) := rfl
  refine (show mj_T pj_P 0 34 [.ref 1] [va_rf (some 72), .ref 1] ([(64, L), (0, 7)] ++ mz_store ++ mz_store ++ [(4, 8)] ++ [(133, 12)] ++ cc_s 12, I3, R3) _ from ?_)
  refine mj_b_putR (hE := fe_0_34) (hw := rfl) (v := some 72) (hM := c3) (k := ?_)
  refine mj_b_rload_n (hE := fe_0_37) (hv := rfl) (k := ?_)
  refine mj_b_iconst (hE := fe_0_38) (k := ?_)
  refine mj_b_putI (hE := fe_0_39) (hw := Or.inl rfl) (hM := c3) (k := ?_)
  refine mj_b_rload_n (hE := fe_0_42) (hv := rfl) (k := ?_)
  refine mj_b_iconst (hE := fe_0_43) (k := ?_)
  refine mj_b_putI (hE := fe_0_44) (hw := Or.inl rfl) (hM := c3) (k := ?_)
  refine mj_b_rload_n (hE := fe_0_47) (hv := rfl) (k := ?_)
  refine mj_b_bipush (hE := fe_0_48) (k := ?_)
  refine mj_b_newarray (hE := fe_0_50) (h0 := by decide) (h1 := by decide) (k := ?_)
  refine (show mj_T pj_P 0 52 [.ref 1] [va_rf (some 86), .ref 1] (sh_c L, mj_n (mj_u (mj_u I3 1 3 (-1)) 1 4 0) 86 0, mj_n (mj_u R3 1 2 (some 72)) 86 none) _ from ?_)
  have c4 : (sh_c L)[1]? = some (0, 7) := rfl
  refine mj_b_putR (hE := fe_0_52) (hw := rfl) (v := some 86) (hM := c4) (k := ?_)
  refine mj_b_rload_n (hE := fe_0_55) (hv := rfl) (k := ?_)
  refine mj_b_iconst (hE := fe_0_56) (k := ?_)
  refine mj_b_putI (hE := fe_0_57) (hw := Or.inl rfl) (hM := c4) (k := ?_)
  dsimp only
  generalize hIf : mj_u (mj_n (mj_u (mj_u I3 1 3 (-1)) 1 4 0) 86 0) 1 6 0 = If
  generalize hRf : mj_u (mj_n (mj_u R3 1 2 (some 72)) 86 none) 1 5 (some 86) = Rf
  have eI : ∀ x j, x ≠ 1 → x ≠ 86 → If x j = I3 x j := by intro x j h1 h2; rw [← hIf]; simp [mj_u, mj_n, h1, h2]
  have eR : ∀ x j, x ≠ 1 → x ≠ 86 → Rf x j = R3 x j := by intro x j h1 h2; rw [← hRf]; simp [mj_u, mj_n, h1, h2]
  have hI1 : ∀ j, If 1 j = if j = 6 then 0 else if j = 4 then 0 else if j = 3 then -1 else I3 1 j := by intro j; rw [← hIf]; simp [mj_u, mj_n]
  have i31 : ∀ j, I3 1 j = 0 := fun j => by
    rw [u2 1 j (by omega), mj_n_off _ _ _ (by omega), t2 1 j (by omega), mj_n_off _ _ _ (by omega), s2 1 j (by omega), mj_n_off _ _ _ (by omega)]
    exact hI 1 j (by omega)
  have x2 : cs_rep 2 (fun i => i) S_0 If Rf := by
    refine (s1 (Or.inl rfl)).on ?_ ?_
    · intro x j h1 h2
      rw [eI _ _ (by omega) (by omega), u2 _ _ (by omega), mj_n_off _ _ _ (by omega), t2 _ _ (by omega), mj_n_off _ _ _ (by omega)]
    · intro x j h1 h2
      rw [eR _ _ (by omega) (by omega), u3 _ _ (by omega), mj_n_off _ _ _ (by omega), mj_u_na _ _ _ _ (by omega), t3 _ _ (by omega), mj_n_off _ _ _ (by omega), mj_u_na _ _ _ _ (by omega)]
  have x37 : cs_ok 37 (fun i => i) Rf := by
    refine (t1 (Or.inr rfl)).2.1.on ?_
    intro x j h1 h2
    rw [eR _ _ (by omega) (by omega), u3 _ _ (by omega), mj_n_off _ _ _ (by omega), mj_u_na _ _ _ _ (by omega)]
  have r10 : R3 1 0 = some 2 := by
    rw [u3 _ _ (by omega), mj_n_off _ _ _ (by omega)]
    have : ¬ ((1 : Nat) = 1 ∧ (0 : Nat) = 1) := by omega
    rw [mj_u, if_neg this, t3 _ _ (by omega), mj_n_off _ _ _ (by omega)]
    exact mj_u_self _ _ _ _
  have r11 : R3 1 1 = some 37 := by
    rw [u3 _ _ (by omega), mj_n_off _ _ _ (by omega)]
    exact mj_u_self _ _ _ _
  refine mj_b_retV (hE := fe_0_60) (hi := in_0) ⟨If, Rf, rfl, ⟨⟨?_, ?_, ?_, ?_⟩, Or.inl ⟨rfl, rfl⟩, x2, x37, ⟨⟨?_, ?_⟩, ⟨?_, by decide⟩, by simp [H_0], ?_, ⟨?_, by decide⟩, ?_, ?_, ?_, ?_⟩, ?_, ?_, ⟨?_, by simp⟩, by simp⟩, ?_, ?_⟩
  · rw [← hRf]; simp [mj_u, mj_n, r10]
  · rw [← hRf]; simp [mj_u, mj_n, r11]
  · rw [← hRf]; simp [mj_u, mj_n]
  · rw [← hRf]; simp [mj_u, mj_n]
  · rw [eR _ _ (by omega) (by omega)]; exact u4
  · intro i hi; rw [eR _ _ (by omega) (by omega)]; exact u5 i hi
  · rw [eI _ _ (by omega) (by omega), u1 _ _ (by omega)]; rfl
  · rw [eI _ _ (by omega) (by omega), u1 _ _ (by omega)]; rfl
  · rw [eI _ _ (by omega) (by omega), u1 _ _ (by omega)]; rfl
  · rw [eI _ _ (by omega) (by omega), u1 _ _ (by omega)]; rfl
  · rw [eI _ _ (by omega) (by omega), u1 _ _ (by omega)]; rfl
  · rw [eI _ _ (by omega) (by omega), u1 _ _ (by omega)]; rfl
  · rw [eI _ _ (by omega) (by omega), u1 _ _ (by omega)]; rfl
  · rw [hI1]; rfl
  · rw [hI1]; rfl
  · rw [hI1]; rfl
  · intro j
    rw [eI _ _ (by omega) (by omega), u2 _ _ (by omega), mj_n_off _ _ _ (by omega), t2 _ _ (by omega), mj_n_off _ _ _ (by omega), s2 _ _ (by omega), mj_n_off _ _ _ (by omega)]
  · intro x j hx
    rw [eI _ _ (by omega) (by omega), u1 _ _ (by omega), if_neg (by omega)]
end KC
