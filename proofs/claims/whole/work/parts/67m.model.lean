/-! ===== the model is made ===== -/
section KE
variable {L : Nat} {I : Nat → Nat → Int32} {R : Nat → Nat → Option Nat}
set_option maxHeartbeats 8000000 in
/-- LockedTreeModel.<init> -/
theorem g88 (hI : ∀ x j, 87 ≤ x → I x j = 0) :
    mj_G pj_P 88 [.ref 87] (sh_c L ++ [(6, 23)], I, R) (fun r => ∃ I' R', r = (none, (mz_SH L, I', R')) ∧ m_all ([(0, 2, 0, 0, 0, 0, 0)], [], 0, 1, 1) [] (-1) 0 [] I' ∧ mm_ok R' ∧ (∀ x j, x < 87 → I' x j = I x j) ∧ ∀ x j, x < 87 → R' x j = R x j) := by
  have na : ∀ {i : Nat} {k : ArrayType} {nx y : Nat} {z : Int32} {tb : List (Int × Nat)} {Sh : List (Nat × Nat)} {I1 : Nat → Nat → Int32} {R1 : Nat → Nat → Option Nat} {pc fld nx2 : Nat} {n : Int32} {m len t : Nat} {z2 : Int32} {tb2 : List (Int × Nat)} {Qq : Option Value × mj_H → Prop}, pj_P.1 88 pc = some (.newarray k, nx, t, y, 0, z, tb) → pj_P.1 88 nx = some (.putfield i, nx2, 6, fld, 1, z2, tb2) → ¬ n < 0 → n.toNatClampNeg ≤ 65536 → Sh.length = len → Sh[87]? = some (6, 23) → n.toNatClampNeg = m → mj_T pj_P 88 nx2 [.ref 87] [] (Sh ++ [(t, m)], mj_n I1 len 0, mj_u (mj_n R1 len none) 87 fld (some len)) Qq → mj_T pj_P 88 pc [.ref 87] [.int n, .ref 87] (Sh, I1, R1) Qq := by
    intro i k nx y z tb Sh I1 R1 pc fld nx2 n m len t z2 tb2 Qq h1 h2 h3 h4 h5 h6 h7 h8
    refine mj_b_newarray (hE := h1) (h0 := h3) (h1 := h4) (k := ?_)
    unfold mj_add
    dsimp only
    rw [h5, h7]
    refine (show mj_T pj_P 88 nx [.ref 87] [va_rf (some len), .ref 87] _ _ from ?_)
    refine mj_b_putR (hE := h2) (hw := rfl) (v := some len) (hM := sh_up h6) (k := ?_)
    exact h8
  refine mj_enter in_88 (L := [.ref 87]) rfl ?_
  refine mj_b_rload_n (hE := fe_88_0) (hv := rfl) (k := ?_)
  refine mj_b_obj (hE := fe_88_1) (k := ?_)
  refine mj_b_rload_n (hE := fe_88_4) (hv := rfl) (k := ?_)
  refine mj_b_bipush (hE := fe_88_5) (k := ?_)
  refine na (len := 88) (m := 40) fe_88_7 fe_88_9 (by decide) (by decide) rfl rfl rfl ?_
  refine mj_b_rload_n (hE := fe_88_12) (hv := rfl) (k := ?_)
  refine mj_b_bipush (hE := fe_88_13) (k := ?_)
  refine na (len := 89) (m := 40) fe_88_15 fe_88_17 (by decide) (by decide) rfl rfl rfl ?_
  refine mj_b_rload_n (hE := fe_88_20) (hv := rfl) (k := ?_)
  refine mj_b_bipush (hE := fe_88_21) (k := ?_)
  refine na (len := 90) (m := 40) fe_88_23 fe_88_25 (by decide) (by decide) rfl rfl rfl ?_
  refine mj_b_rload_n (hE := fe_88_28) (hv := rfl) (k := ?_)
  refine mj_b_bipush (hE := fe_88_29) (k := ?_)
  refine na (len := 91) (m := 40) fe_88_31 fe_88_33 (by decide) (by decide) rfl rfl rfl ?_
  refine mj_b_rload_n (hE := fe_88_36) (hv := rfl) (k := ?_)
  refine mj_b_bipush (hE := fe_88_37) (k := ?_)
  refine na (len := 92) (m := 120) fe_88_39 fe_88_41 (by decide) (by decide) rfl rfl rfl ?_
  refine mj_b_rload_n (hE := fe_88_44) (hv := rfl) (k := ?_)
  refine mj_b_bipush (hE := fe_88_45) (k := ?_)
  refine na (len := 93) (m := 20) fe_88_47 fe_88_49 (by decide) (by decide) rfl rfl rfl ?_
  refine mj_b_rload_n (hE := fe_88_52) (hv := rfl) (k := ?_)
  refine mj_b_bipush (hE := fe_88_53) (k := ?_)
  refine na (len := 94) (m := 20) fe_88_55 fe_88_57 (by decide) (by decide) rfl rfl rfl ?_
  refine mj_b_rload_n (hE := fe_88_60) (hv := rfl) (k := ?_)
  refine mj_b_bipush (hE := fe_88_61) (k := ?_)
  refine na (len := 95) (m := 20) fe_88_63 fe_88_65 (by decide) (by decide) rfl rfl rfl ?_
  refine mj_b_rload_n (hE := fe_88_68) (hv := rfl) (k := ?_)
  refine mj_b_bipush (hE := fe_88_69) (k := ?_)
  refine na (len := 96) (m := 20) fe_88_71 fe_88_73 (by decide) (by decide) rfl rfl rfl ?_
  refine mj_b_rload_n (hE := fe_88_76) (hv := rfl) (k := ?_)
  refine mj_b_bipush (hE := fe_88_77) (k := ?_)
  refine na (len := 97) (m := 20) fe_88_79 fe_88_81 (by decide) (by decide) rfl rfl rfl ?_
  refine mj_b_rload_n (hE := fe_88_84) (hv := rfl) (k := ?_)
  refine mj_b_bipush (hE := fe_88_85) (k := ?_)
  refine na (len := 98) (m := 10) fe_88_87 fe_88_89 (by decide) (by decide) rfl rfl rfl ?_
  refine mj_b_rload_n (hE := fe_88_92) (hv := rfl) (k := ?_)
  refine mj_b_bipush (hE := fe_88_93) (k := ?_)
  refine na (len := 99) (m := 24) fe_88_95 fe_88_97 (by decide) (by decide) rfl rfl rfl ?_
  refine mj_b_rload_n (hE := fe_88_100) (hv := rfl) (k := ?_)
  refine mj_b_bipush (hE := fe_88_101) (k := ?_)
  refine na (len := 100) (m := 12) fe_88_103 fe_88_105 (by decide) (by decide) rfl rfl rfl ?_
  refine mj_b_rload_n (hE := fe_88_108) (hv := rfl) (k := ?_)
  refine mj_b_iconst (hE := fe_88_109) (k := ?_)
  refine mj_b_putI (hE := fe_88_110) (hw := Or.inl rfl) (hM := rfl) (k := ?_)
  refine mj_b_rload_n (hE := fe_88_113) (hv := rfl) (k := ?_)
  refine mj_b_bipush (hE := fe_88_114) (k := ?_)
  refine na (len := 101) (m := 16) fe_88_116 fe_88_118 (by decide) (by decide) rfl rfl rfl ?_
  refine (show mj_T pj_P 88 121 [.ref 87] [] (mz_SH L, _, _) _ from ?_)
  dsimp only
  generalize hRf : mj_u (mj_n _ 101 none) 87 21 (some 101) = Rf
  have hm : mm_ok Rf := by
    rw [← hRf]
    refine ⟨?_, ?_, ?_, ?_, ?_, ?_, ?_, ?_, ?_, ?_, ?_, ?_, ?_, ?_⟩ <;> simp [mj_u, mj_n]
  have hlt : ∀ x j, x < 87 → Rf x j = R x j := by
    intro x j hx
    rw [← hRf]
    iterate 14 (rw [mj_u_na _ _ _ _ (by omega), mj_n_off _ _ _ (by omega)])
  have z : ∀ {J : Nat → Nat → Int32} {a x j : Nat}, J x j = 0 → mj_n J a 0 x j = 0 := by
    intro J a x j h
    simp [mj_n, h]
  generalize hJ : (mj_n (mj_n (mj_n (mj_n (mj_n (mj_n (mj_n (mj_n (mj_n (mj_n (mj_n (mj_n (mj_n I 88 0) 89 0) 90 0) 91 0) 92 0) 93 0) 94 0) 95 0) 96 0) 97 0) 98 0) 99 0) 100 0) = J
  have j0 : ∀ x j, 87 ≤ x → J x j = 0 := by
    intro x j hx
    rw [← hJ]
    exact z (z (z (z (z (z (z (z (z (z (z (z (z (hI x j hx)))))))))))))
  have j1 : ∀ x j, x < 87 → J x j = I x j := by
    intro x j hx
    rw [← hJ]
    rw [mj_n_off _ _ _ (show x ≠ 100 by omega), mj_n_off _ _ _ (show x ≠ 99 by omega), mj_n_off _ _ _ (show x ≠ 98 by omega), mj_n_off _ _ _ (show x ≠ 97 by omega), mj_n_off _ _ _ (show x ≠ 96 by omega), mj_n_off _ _ _ (show x ≠ 95 by omega), mj_n_off _ _ _ (show x ≠ 94 by omega), mj_n_off _ _ _ (show x ≠ 93 by omega), mj_n_off _ _ _ (show x ≠ 92 by omega), mj_n_off _ _ _ (show x ≠ 91 by omega), mj_n_off _ _ _ (show x ≠ 90 by omega), mj_n_off _ _ _ (show x ≠ 89 by omega), mj_n_off _ _ _ (show x ≠ 88 by omega)]
  refine mj_b_rload_n (hE := fe_88_121) (hv := rfl) (k := ?_)
  refine mj_b_getQ (hE := fe_88_122) (hM := sm_87 L) (hv := hm.2.2.2.2.2.2.2.2.2.2.1) (k := ?_)
  refine mj_b_iconst (hE := fe_88_125) (k := ?_)
  refine mj_b_iconst (hE := fe_88_126) (k := ?_)
  refine mj_b_iastN (hE := fe_88_127) (hM := sm_98 L) (c := 0) (hj := rfl) (hc := by decide) (hn := by decide) (k := ?_)
  refine mj_b_rload_n (hE := fe_88_128) (hv := rfl) (k := ?_)
  refine mj_b_getQ (hE := fe_88_129) (hM := sm_87 L) (hv := hm.2.1) (k := ?_)
  refine mj_b_iconst (hE := fe_88_132) (k := ?_)
  refine mj_b_iconst (hE := fe_88_133) (k := ?_)
  refine mj_b_bastN (hE := fe_88_134) (hM := sm_89 L) (c := 0) (b := true) (hj := rfl) (hc := by decide) (hn := by decide) (hv := rfl) (k := ?_)
  dsimp only
  generalize hIf : mj_u (mj_u _ 98 0 1) 89 0 (pz true) = If
  have f1 : ∀ x j, x < 87 → If x j = I x j := by
    intro x j hx
    rw [← hIf, mj_u_na _ _ _ _ (by omega), mj_u_na _ _ _ _ (by omega), mj_n_off _ _ _ (by omega), mj_u_na _ _ _ _ (by omega), j1 x j hx]
  have f2 : ∀ x j, 87 ≤ x → If x j = if x = 89 ∧ j = 0 then 1 else if x = 98 ∧ j = 0 then 1 else if x = 101 then 0 else if x = 87 ∧ j = 18 then -1 else 0 := by
    intro x j hx
    rw [← hIf]
    simp [mj_u, mj_n, j0 x j hx, pz]
  refine mj_b_retV (hE := fe_88_135) (hi := in_88) ⟨If, Rf, rfl, ⟨⟨Or.inl rfl, ⟨?_, by decide⟩, ⟨?_, by decide⟩, ?_, by simp, ?_, ?_, ?_⟩, ⟨?_, by decide⟩, by simp, ?_, ?_, ⟨?_, by decide⟩, by simp⟩, hm, f1, hlt⟩
  · rw [f2 _ _ (by omega)]; rfl
  · rw [f2 _ _ (by omega)]; rfl
  · intro i r hi
    have hl := (List.getElem?_eq_some_iff.mp hi).1
    obtain rfl : i = 0 := by simpa using hl
    obtain rfl : (0, 2, 0, 0, 0, 0, 0) = r := by simpa using hi
    refine ⟨?_, ?_, ?_, ?_, ?_, ?_, ?_⟩ <;> rw [f2 _ _ (by omega)] <;> rfl
  · rw [f2 _ _ (by omega)]; rfl
  · rw [f2 _ _ (by omega)]; rfl
  · rw [f2 _ _ (by omega)]; rfl
  · rw [f2 _ _ (by omega)]; rfl
  · rw [f2 _ _ (by omega)]; rfl
  · rw [f2 _ _ (by omega)]; rfl
  · rw [f2 _ _ (by omega)]; rfl
end KE
