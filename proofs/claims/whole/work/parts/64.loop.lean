/-! ===== the law: all calls ===== -/
section LC
variable {L : Nat} {X : Nat → Int32} {Q : Option Value × mj_H → Prop}
theorem lw_end {L i : Nat} (hL : L ≤ 2560) (hi : i ≤ 5000) : (Int32.ofNat L - 5 < nI i) ↔ L < i + 5 := by
  rw [show Int32.ofNat L = nI L from rfl]
  rcases Nat.lt_or_ge L 5 with h | h
  · have hneg : (nI L - 5).toInt < 0 := by
      rcases (show L = 0 ∨ L = 1 ∨ L = 2 ∨ L = 3 ∨ L = 4 by omega) with rfl | rfl | rfl | rfl | rfl <;> decide
    rw [Int32.lt_iff_toInt_lt, nI_toInt (by omega)]
    omega
  · rw [show (5 : Int32) = nI 5 from rfl, nI_sub h, nI_lt_iff (by omega) (by omega)]
    omega
set_option maxHeartbeats 4000000 in
theorem l139 (hL : L ≤ 2560) (hk : ∀ I R i, mj_T pj_P 139 844 [.ref 0, .ref 1, .ref 87, .int (nI i)] [] (mz_SH L, I, R) Q) : ∀ (k n : Nat) (I : Nat → Nat → Int32) (R : Nat → Nat → Option Nat), 5 * n + k = 2560 → lw_in n X I R → mj_T pj_P 139 18 [.ref 0, .ref 1, .ref 87, .int (nI (5 * n))] [] (mz_SH L, I, R) Q := by
  have h0 : (mz_SH L)[0]? = some (64, L) := rfl
  intro k
  induction k using Nat.strongRecOn with
  | ind k ih =>
    intro n I R hkn h
    have hx : ∀ j, I 0 j = X j := by
      obtain ⟨sn, sx, pn, px, S, H, f, w, ms, rs, hs, hc, hm, hmm, hr, hX⟩ := h
      exact hX
    refine mj_b_iload_n (hE := fe_139_18) (hv := rfl) (k := ?_)
    refine mj_b_rload_n (hE := fe_139_19) (hv := rfl) (k := ?_)
    refine mj_b_len (hE := fe_139_20) (hM := h0) (ht := Or.inl (by decide)) (k := ?_)
    refine mj_b_iconst (hE := fe_139_21) (k := ?_)
    refine mj_b_isub (hE := fe_139_22) (k := ?_)
    refine mj_b_if2 (hE := fe_139_23) (kt := fun g => ?_) (kf := fun g => ?_)
    · exact hk I R _
    · simp only [mj_cnd, decide_eq_false_iff_not] at g
      rw [lw_end hL (by omega)] at g
      have hi : 5 * n + 5 ≤ L := by omega
      have hnx : ∀ I' R', lw_in (n + 1) X I' R' → mj_T pj_P 139 838 [.ref 0, .ref 1, .ref 87, .int (nI (5 * n))] [] (mz_SH L, I', R') Q := by
        intro I' R' h'
        refine mj_b_iinc (hE := fe_139_838) (hv := rfl) (k := ?_)
        refine mj_b_goto (hE := fe_139_841) (k := ?_)
        refine (show mj_T pj_P 139 18 [.ref 0, .ref 1, .ref 87, .int (nI (5 * n) + nI 5)] [] (mz_SH L, I', R') Q from ?_)
        rw [nI_add, show 5 * n + 5 = 5 * (n + 1) by omega]
        exact ih (k - 5) (by omega) (n + 1) I' R' (by omega) h'
      refine mj_b_rload_n (hE := fe_139_26) (hv := rfl) (k := ?_)
      refine mj_b_iload_n (hE := fe_139_27) (hv := rfl) (k := ?_)
      refine mj_b_ialdN (hE := fe_139_28) (v := X (5 * n)) (c := 5 * n) (hM := h0) (ht := Or.inl rfl) (hj := rfl) (hc := by omega) (hn := by omega) (hv := hx _) (k := ?_)
      refine mj_b_bipush (hE := fe_139_29) (k := ?_)
      refine mj_b_iand (hE := fe_139_31) (k := ?_)
      generalize X (5 * n) &&& 31 = v
      by_cases v0 : v = 0
      · subst v0
        refine mj_b_tsw (hE := fe_139_32) (tg := 132) (ht := by decide) (k := ?_)
        exact lc_0 h (by omega) hL hi hnx
      by_cases v1 : v = 1
      · subst v1
        refine mj_b_tsw (hE := fe_139_32) (tg := 157) (ht := by decide) (k := ?_)
        exact lc_1 h (by omega) hL hi hnx
      by_cases v2 : v = 2
      · subst v2
        refine mj_b_tsw (hE := fe_139_32) (tg := 180) (ht := by decide) (k := ?_)
        exact lc_2 h (by omega) hL hi hnx
      by_cases v3 : v = 3
      · subst v3
        refine mj_b_tsw (hE := fe_139_32) (tg := 213) (ht := by decide) (k := ?_)
        exact lc_3 h (by omega) hL hi hnx
      by_cases v4 : v = 4
      · subst v4
        refine mj_b_tsw (hE := fe_139_32) (tg := 236) (ht := by decide) (k := ?_)
        exact lc_4 h (by omega) hL hi hnx
      by_cases v5 : v = 5
      · subst v5
        refine mj_b_tsw (hE := fe_139_32) (tg := 259) (ht := by decide) (k := ?_)
        exact lc_5 h (by omega) hL hi hnx
      by_cases v6 : v = 6
      · subst v6
        refine mj_b_tsw (hE := fe_139_32) (tg := 344) (ht := by decide) (k := ?_)
        exact lc_6 h (by omega) hL hi hnx
      by_cases v7 : v = 7
      · subst v7
        refine mj_b_tsw (hE := fe_139_32) (tg := 403) (ht := by decide) (k := ?_)
        exact lc_7 h (by omega) hL hi hnx
      by_cases v8 : v = 8
      · subst v8
        refine mj_b_tsw (hE := fe_139_32) (tg := 446) (ht := by decide) (k := ?_)
        exact lc_8 h (by omega) hL hi hnx
      by_cases v9 : v = 9
      · subst v9
        refine mj_b_tsw (hE := fe_139_32) (tg := 531) (ht := by decide) (k := ?_)
        exact lc_9 h (by omega) hL hi hnx
      by_cases v10 : v = 10
      · subst v10
        refine mj_b_tsw (hE := fe_139_32) (tg := 564) (ht := by decide) (k := ?_)
        exact lc_10 h (by omega) hL hi hnx
      by_cases v11 : v = 11
      · subst v11
        refine mj_b_tsw (hE := fe_139_32) (tg := 597) (ht := by decide) (k := ?_)
        exact lc_11 h (by omega) hL hi hnx
      by_cases v12 : v = 12
      · subst v12
        refine mj_b_tsw (hE := fe_139_32) (tg := 620) (ht := by decide) (k := ?_)
        exact lc_12 h (by omega) hL hi hnx
      by_cases v13 : v = 13
      · subst v13
        refine mj_b_tsw (hE := fe_139_32) (tg := 643) (ht := by decide) (k := ?_)
        exact lc_13 h (by omega) hL hi hnx
      by_cases v14 : v = 14
      · subst v14
        refine mj_b_tsw (hE := fe_139_32) (tg := 666) (ht := by decide) (k := ?_)
        exact lc_14 h (by omega) hL hi hnx
      by_cases v15 : v = 15
      · subst v15
        refine mj_b_tsw (hE := fe_139_32) (tg := 689) (ht := by decide) (k := ?_)
        exact lc_15 h (by omega) hL hi hnx
      by_cases v16 : v = 16
      · subst v16
        refine mj_b_tsw (hE := fe_139_32) (tg := 722) (ht := by decide) (k := ?_)
        exact lc_16 h (by omega) hL hi hnx
      by_cases v17 : v = 17
      · subst v17
        refine mj_b_tsw (hE := fe_139_32) (tg := 755) (ht := by decide) (k := ?_)
        exact lc_17 h (by omega) hL hi hnx
      by_cases v18 : v = 18
      · subst v18
        refine mj_b_tsw (hE := fe_139_32) (tg := 779) (ht := by decide) (k := ?_)
        exact lc_18 h (by omega) hL hi hnx
      by_cases v19 : v = 19
      · subst v19
        refine mj_b_tsw (hE := fe_139_32) (tg := 802) (ht := by decide) (k := ?_)
        exact lc_19 h (by omega) hL hi hnx
      by_cases v20 : v = 20
      · subst v20
        refine mj_b_tsw (hE := fe_139_32) (tg := 815) (ht := by decide) (k := ?_)
        exact lc_20 h (by omega) hL hi hnx
      have tg : (([(0, 132), (1, 157), (2, 180), (3, 213), (4, 236), (5, 259), (6, 344), (7, 403), (8, 446), (9, 531), (10, 564), (11, 597), (12, 620), (13, 643), (14, 666), (15, 689), (16, 722), (17, 755), (18, 779), (19, 802), (20, 815)] : List (Int × Nat)).lookup v.toInt).getD 838 = 838 := by
        have b0 : (v.toInt == 0) = false := beq_eq_false_iff_ne.mpr (sw_10 (b := 0) v0 rfl)
        have b1 : (v.toInt == 1) = false := beq_eq_false_iff_ne.mpr (sw_10 (b := 1) v1 rfl)
        have b2 : (v.toInt == 2) = false := beq_eq_false_iff_ne.mpr (sw_10 (b := 2) v2 rfl)
        have b3 : (v.toInt == 3) = false := beq_eq_false_iff_ne.mpr (sw_10 (b := 3) v3 rfl)
        have b4 : (v.toInt == 4) = false := beq_eq_false_iff_ne.mpr (sw_10 (b := 4) v4 rfl)
        have b5 : (v.toInt == 5) = false := beq_eq_false_iff_ne.mpr (sw_10 (b := 5) v5 rfl)
        have b6 : (v.toInt == 6) = false := beq_eq_false_iff_ne.mpr (sw_10 (b := 6) v6 rfl)
        have b7 : (v.toInt == 7) = false := beq_eq_false_iff_ne.mpr (sw_10 (b := 7) v7 rfl)
        have b8 : (v.toInt == 8) = false := beq_eq_false_iff_ne.mpr (sw_10 (b := 8) v8 rfl)
        have b9 : (v.toInt == 9) = false := beq_eq_false_iff_ne.mpr (sw_10 (b := 9) v9 rfl)
        have b10 : (v.toInt == 10) = false := beq_eq_false_iff_ne.mpr (sw_10 (b := 10) v10 rfl)
        have b11 : (v.toInt == 11) = false := beq_eq_false_iff_ne.mpr (sw_10 (b := 11) v11 rfl)
        have b12 : (v.toInt == 12) = false := beq_eq_false_iff_ne.mpr (sw_10 (b := 12) v12 rfl)
        have b13 : (v.toInt == 13) = false := beq_eq_false_iff_ne.mpr (sw_10 (b := 13) v13 rfl)
        have b14 : (v.toInt == 14) = false := beq_eq_false_iff_ne.mpr (sw_10 (b := 14) v14 rfl)
        have b15 : (v.toInt == 15) = false := beq_eq_false_iff_ne.mpr (sw_10 (b := 15) v15 rfl)
        have b16 : (v.toInt == 16) = false := beq_eq_false_iff_ne.mpr (sw_10 (b := 16) v16 rfl)
        have b17 : (v.toInt == 17) = false := beq_eq_false_iff_ne.mpr (sw_10 (b := 17) v17 rfl)
        have b18 : (v.toInt == 18) = false := beq_eq_false_iff_ne.mpr (sw_10 (b := 18) v18 rfl)
        have b19 : (v.toInt == 19) = false := beq_eq_false_iff_ne.mpr (sw_10 (b := 19) v19 rfl)
        have b20 : (v.toInt == 20) = false := beq_eq_false_iff_ne.mpr (sw_10 (b := 20) v20 rfl)
        simp only [List.lookup, b0, b1, b2, b3, b4, b5, b6, b7, b8, b9, b10, b11, b12, b13, b14, b15, b16, b17, b18, b19, b20, Option.getD]
      refine mj_b_tsw (hE := fe_139_32) (tg := 838) (ht := tg) (k := ?_)
      exact hnx I R (h.mono (by omega))
end LC
