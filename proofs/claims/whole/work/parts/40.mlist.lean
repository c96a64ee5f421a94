/-! ===== the model: a list is read ===== -/
section ML
variable {L a : Nat} {T : ty_st} {ts hs : List Int32} {fm hd : Bool} {I I' I0 : Nat → Nat → Int32} {R : Nat → Nat → Option Nat} {Q : Option Value × mj_H → Prop} {z : Int32 × Int32}
/-- what reading a list leaves -/
def rl_post (L : Nat) (z : Int32 × Int32) (hs : List Int32) (T : ty_st) (p : Int32) (fm hd : Bool) (C : List ty_cd) (lc gp' : Int32) (a : Nat) (I0 : Nat → Nat → Int32) (R : Nat → Nat → Option Nat) (r : Option Value × mj_H) : Prop :=
  ∃ I' a' fm' hd' ts', r = (none, (mz_SH L, I', R)) ∧ fr_7 I0 I' ∧ hm_rep hs a' fm' hd' ts' I' ∧ a' ≤ 60 ∧ (fm' = false → hd_gd z hs = false) ∧
    (fm' = true → fm = true ∧ ∃ D y', ts' = tsof (C ++ D) ∧ hd_at z hs a' = (C ++ D, lc + 1, a', 7, gp', y') ∧ D ≠ [] ∧ (∀ c ∈ D, c.1 = lc + 1) ∧ hd' = (hd || D.all (a_cnd T.1 T.2.1 p)) ∧ 2 * (C ++ D).length ≤ a' ∧ a' ≤ hs.length ∧ a < a')
/-- how a list stands while it is read -/
def rl_in (z : Int32 × Int32) (hs : List Int32) (T : ty_st) (p : Int32) (C D : List ty_cd) (lc gp' : Int32) (a a1 n : Nat) (al : Bool) (ts1 : List Int32) : Prop :=
  ∃ s1 y1, hd_at z hs a1 = (C ++ D, lc + 1, a1, s1, gp', y1) ∧ ((s1 = 3 ∧ D = []) ∨ (s1 = 6 ∧ D ≠ [] ∧ ∀ x, hs[a1]? = some x → pf_dig x = false)) ∧ n = D.length ∧ al = D.all (a_cnd T.1 T.2.1 p) ∧ ts1 = tsof (C ++ D) ∧ 2 * (C ++ D).length + 1 ≤ a1 ∧ a1 ≤ hs.length ∧ a < a1 ∧ ∀ c ∈ D, c.1 = lc + 1
set_option maxHeartbeats 2000000 in
theorem p97 {p ab lc gp' : Int32} {C D : List ty_cd} {fm1 al : Bool} {ts1 : List Int32} {a1 n : Nat} {v4 : Value} (hm : mm_ok R) (h : hm_rep hs a1 fm1 hd ts1 I) (hf : fr_7 I0 I) (ha : a1 ≤ 50) (hn : n ≤ 24) (h0 : fm1 = false → hd_gd z hs = false) (h1 : fm1 = true → fm = true ∧ rl_in z hs T p C D lc gp' a a1 n al ts1 ∧ (hs.length ≤ a1 ∨ hs[a1]? = some 41)) :
    mj_T pj_P 97 94 [.ref 87, .int ab, .int (pz al), .int (nI n), v4] [] (mz_SH L, I, R) (rl_post L z hs T p fm hd C lc gp' a I0 R) := by
  have h87 := sm_87 L
  have p120 : ∀ t : Bool, t = (fm1 && (decide (0 < n) && decide (hs[a1]? = some 41))) → mj_T pj_P 97 120 [.ref 87, .int ab, .int (pz al), .int (nI n), v4] [.int (pz t), .ref 87] (mz_SH L, I, R) (rl_post L z hs T p fm hd C lc gp' a I0 R) := by
    intro t ht
    have c1 := h.2.2.1.1
    have hh2 := (h.fm' t).at' (n := a1 + 1) (by omega)
    have f2 : fr_7 I0 (mj_u (mj_u I 87 14 (pz t)) 87 13 (nI (a1 + 1))) := (hf.trans (fr_7.u (by omega) (by omega))).trans (fr_7.u (by omega) (by omega))
    have g15 := hh2.2.2.2.2.1
    have g14 := hh2.2.2.2.1
    refine mj_b_putI (hE := fe_97_120) (hw := Or.inr ⟨rfl, pz_01 _⟩) (hM := h87) (k := ?_)
    refine mj_b_rload_n (hE := fe_97_123) (hv := rfl) (k := ?_)
    refine mj_b_dup (hE := fe_97_124) (hv := rfl) (k := ?_)
    refine mj_b_getV (hE := fe_97_125) (v := nI a1) (hM := h87) (hv := by simp [mj_u, c1]) (k := ?_)
    refine mj_b_iconst (hE := fe_97_128) (k := ?_)
    refine mj_b_iadd (hE := fe_97_129) (k := ?_)
    refine mj_b_putI (hE := fe_97_130) (hw := Or.inl rfl) (hM := by assumption) (k := ?_)
    refine (show mj_T pj_P 97 133 [.ref 87, .int ab, .int (pz al), .int (nI n), v4] [] (mz_SH L, mj_u (mj_u I 87 14 (pz t)) 87 13 (nI a1 + 1), R) _ from ?_)
    rw [← nI_succ]
    generalize mj_u (mj_u I 87 14 (pz t)) 87 13 (nI (a1 + 1)) = J at hh2 f2 g15 g14 ⊢
    have p157 : ∀ b : Bool, b = (hd || (t && al)) → mj_T pj_P 97 157 [.ref 87, .int ab, .int (pz al), .int (nI n), v4] [.int (pz b), .ref 87] (mz_SH L, J, R) (rl_post L z hs T p fm hd C lc gp' a I0 R) := by
      intro b hb
      refine mj_b_putI (hE := fe_97_157) (hw := Or.inr ⟨rfl, pz_01 _⟩) (hM := h87) (k := ?_)
      refine mj_b_retV (hE := fe_97_160) (hi := in_97) ⟨_, a1 + 1, t, b, ts1, rfl, f2.trans (fr_7.u (by omega) (by omega)), hh2.hd' b, by omega, ?_, ?_⟩
      · intro htf
        rcases Bool.eq_false_or_eq_true fm1 with hfm | hfm
        · obtain ⟨-, ⟨s1, y1, i1, i2, i3, -, -, i6, i7, -⟩, hex⟩ := h1 hfm
          rw [htf, hfm, Bool.true_and] at ht
          have hs36 : s1 = 3 ∨ s1 = 6 := by rcases i2 with i2 | i2; exact Or.inl i2.1; exact Or.inr i2.1
          refine hp_noclose i1 hs36 i7 ?_
          rcases hex with hex | hex
          · exact Or.inl hex
          · right
            refine ⟨?_, hex⟩
            rcases i2 with i2 | i2
            · exact i2.1
            · have hpos : 0 < n := by rw [i3]; exact List.length_pos_iff.mpr i2.2.1
              rw [decide_eq_true hpos, decide_eq_true hex] at ht
              cases ht
        · exact h0 hfm
      · intro htt
        rw [htt] at ht
        have ht2 := ht.symm
        simp only [Bool.and_eq_true, decide_eq_true_eq] at ht2
        obtain ⟨hfm, hpos, h41⟩ := ht2
        obtain ⟨hfm0, ⟨s1, y1, i1, i2, i3, i4, i5, i6, i7, i8, i9⟩, hex⟩ := h1 hfm
        refine ⟨hfm0, D, y1, i5, ?_, ?_, i9, ?_, by omega, ?_, by omega⟩
        · rcases i2 with i2 | i2
          · rw [i2.2] at i3; simp at i3; omega
          · rw [i2.1] at i1
            exact hp_close i1 h41
        · rcases i2 with i2 | i2
          · rw [i2.2] at i3; simp at i3; omega
          · exact i2.2.1
        · rw [hb, htt, Bool.true_and, i4]
        · have := (List.getElem?_eq_some_iff.mp h41).1
          omega
    refine mj_b_rload_n (hE := fe_97_133) (hv := rfl) (k := ?_)
    refine mj_b_rload_n (hE := fe_97_134) (hv := rfl) (k := ?_)
    refine mj_b_getV (hE := fe_97_135) (hM := by assumption) (hv := by assumption) (k := ?_)
    refine mj_b_if1 (hE := fe_97_138) (kt := fun g => ?_) (kf := fun g => ?_)
    · simp only [mj_cnd, Bool.not_eq_true', decide_eq_false_iff_not, pz_0, Bool.not_eq_false] at g
      refine mj_b_iconst (hE := fe_97_152) (k := ?_)
      refine mj_b_goto (hE := fe_97_153) (k := ?_)
      exact p157 true (by simp [g])
    · simp only [mj_cnd, Bool.not_eq_false', decide_eq_true_eq, pz_0] at g
      refine mj_b_rload_n (hE := fe_97_141) (hv := rfl) (k := ?_)
      refine mj_b_getV (hE := fe_97_142) (hM := by assumption) (hv := by assumption) (k := ?_)
      refine mj_b_if1 (hE := fe_97_145) (kt := fun g2 => ?_) (kf := fun g2 => ?_)
      · simp only [mj_cnd, decide_eq_true_eq, pz_0] at g2
        refine mj_b_iconst (hE := fe_97_156) (k := ?_)
        exact p157 false (by simp [g, g2])
      · simp only [mj_cnd, decide_eq_false_iff_not, pz_0, Bool.not_eq_false] at g2
        refine mj_b_iload_n (hE := fe_97_148) (hv := rfl) (k := ?_)
        refine mj_b_if1 (hE := fe_97_149) (kt := fun g3 => ?_) (kf := fun g3 => ?_)
        · simp only [mj_cnd, decide_eq_true_eq, pz_0] at g3
          refine mj_b_iconst (hE := fe_97_156) (k := ?_)
          exact p157 false (by simp [g, g3])
        · simp only [mj_cnd, decide_eq_false_iff_not, pz_0, Bool.not_eq_false] at g3
          refine mj_b_iconst (hE := fe_97_152) (k := ?_)
          refine mj_b_goto (hE := fe_97_153) (k := ?_)
          exact p157 true (by simp [g2, g3])
  have g14 := h.2.2.2.1
  refine mj_b_rload_n (hE := fe_97_94) (hv := rfl) (k := ?_)
  refine mj_b_rload_n (hE := fe_97_95) (hv := rfl) (k := ?_)
  refine mj_b_getV (hE := fe_97_96) (hM := by assumption) (hv := by assumption) (k := ?_)
  refine mj_b_if1 (hE := fe_97_99) (kt := fun g => ?_) (kf := fun g => ?_)
  · simp only [mj_cnd, decide_eq_true_eq, pz_0] at g
    refine mj_b_iconst (hE := fe_97_119) (k := ?_)
    exact p120 false (by simp [g])
  · simp only [mj_cnd, decide_eq_false_iff_not, pz_0, Bool.not_eq_false] at g
    refine mj_b_iload_n (hE := fe_97_102) (hv := rfl) (k := ?_)
    refine mj_b_if1 (hE := fe_97_103) (kt := fun g2 => ?_) (kf := fun g2 => ?_)
    · simp only [mj_cnd, decide_eq_true_eq] at g2
      rw [nI_le0 (by omega)] at g2
      refine mj_b_iconst (hE := fe_97_119) (k := ?_)
      exact p120 false (by simp [g2])
    · simp only [mj_cnd, decide_eq_false_iff_not] at g2
      rw [nI_le0 (by omega)] at g2
      refine mj_b_rload_n (hE := fe_97_106) (hv := rfl) (k := ?_)
      refine mj_b_bipush (hE := fe_97_107) (k := ?_)
      refine mj_b_callR (hE := fe_97_109) (hi := in_95) (h1 := g95' 41 hm h) (hc := mj_cok_v rfl rfl h87) (ha := rfl) (hr := rfl) ?_
      refine mj_b_if1 (hE := fe_97_112) (kt := fun g3 => ?_) (kf := fun g3 => ?_)
      · simp only [mj_cnd, decide_eq_true_eq, pz_0, decide_eq_false_iff_not] at g3
        refine mj_b_iconst (hE := fe_97_119) (k := ?_)
        exact p120 false (by simp [g3])
      · simp only [mj_cnd, decide_eq_false_iff_not, pz_0, Decidable.not_not] at g3
        refine mj_b_iconst (hE := fe_97_115) (k := ?_)
        refine mj_b_goto (hE := fe_97_116) (k := ?_)
        exact p120 true (by simp [g, g3, Nat.pos_of_ne_zero g2])
theorem l97f {p ab lc gp' : Int32} {C : List ty_cd} {al : Bool} {ts1 : List Int32} {a1 n : Nat} {v4 : Value} (hm : mm_ok R) (h : hm_rep hs a1 false hd ts1 I) (hf : fr_7 I0 I) (ha : a1 ≤ 50) (hn : n ≤ 24) (h0 : hd_gd z hs = false) :
    mj_T pj_P 97 39 [.ref 87, .int ab, .int (pz al), .int (nI n), v4] [] (mz_SH L, I, R) (rl_post L z hs T p fm hd C lc gp' a I0 R) := by
  have h87 := sm_87 L
  have g14 : I 87 14 = pz false := h.2.2.2.1
  refine mj_b_rload_n (hE := fe_97_39) (hv := rfl) (k := ?_)
  refine mj_b_getV (hE := fe_97_40) (hM := by assumption) (hv := by assumption) (k := ?_)
  refine mj_b_if1 (hE := fe_97_43) (kt := fun g => ?_) (kf := fun g => ?_)
  · exact p97 (D := []) hm h hf ha hn (fun _ => h0) (fun hfm => by cases hfm)
  · exact absurd g (by decide)
set_option maxHeartbeats 2000000 in
theorem l97 {p ab lc gp' : Int32} {C : List ty_cd} (hm : mm_ok R) (ht0 : md_rep 0 T I0) (hnt : ar_nd T.1) (hnl : al_nd T.2.1) (hnm : ∀ c ∈ hs, pf_named c = true) (hab : ab = if gp' = -1 then p else gp') :
    ∀ (k : Nat) (I : Nat → Nat → Int32) (a1 n : Nat) (fm1 al : Bool) (ts1 : List Int32) (D : List ty_cd) (v4 : Value), hs.length - a1 < k → hm_rep hs a1 fm1 hd ts1 I → fr_7 I0 I → a1 ≤ 50 → n ≤ 24 → (fm1 = false → hd_gd z hs = false) → (fm1 = true → fm = true ∧ rl_in z hs T p C D lc gp' a a1 n al ts1) → mj_T pj_P 97 39 [.ref 87, .int ab, .int (pz al), .int (nI n), v4] [] (mz_SH L, I, R) (rl_post L z hs T p fm hd C lc gp' a I0 R) := by
  have h87 := sm_87 L
  intro k
  induction k with
  | zero => intro I a1 n fm1 al ts1 D v4 hk; omega
  | succ k ih =>
    intro I a1 n fm1 al ts1 D v4 hk h hf ha hn h0 h1
    have g14 := h.2.2.2.1
    have c1 := h.2.2.1.1
    have l1 := h.1.1
    have l24 := h.1.2
    refine mj_b_rload_n (hE := fe_97_39) (hv := rfl) (k := ?_)
    refine mj_b_getV (hE := fe_97_40) (hM := by assumption) (hv := by assumption) (k := ?_)
    refine mj_b_if1 (hE := fe_97_43) (kt := fun g => ?_) (kf := fun g => ?_)
    · simp only [mj_cnd, decide_eq_true_eq, pz_0] at g
      exact p97 (D := D) hm h hf ha hn h0 (fun hfm => by rw [g] at hfm; cases hfm)
    · simp only [mj_cnd, decide_eq_false_iff_not, pz_0, Bool.not_eq_false] at g
      obtain ⟨hfm0, hin⟩ := h1 g
      refine mj_b_rload_n (hE := fe_97_46) (hv := rfl) (k := ?_)
      refine mj_b_getV (hE := fe_97_47) (hM := by assumption) (hv := by assumption) (k := ?_)
      refine mj_b_rload_n (hE := fe_97_50) (hv := rfl) (k := ?_)
      refine mj_b_getV (hE := fe_97_51) (hM := by assumption) (hv := by assumption) (k := ?_)
      refine mj_b_if2 (hE := fe_97_54) (kt := fun g2 => ?_) (kf := fun g2 => ?_)
      · simp only [mj_cnd, decide_eq_true_eq] at g2
        rw [nI_le_iff (by omega) (by omega)] at g2
        exact p97 (D := D) hm h hf ha hn h0 (fun hfm => ⟨hfm0, hin, Or.inl g2⟩)
      · simp only [mj_cnd, decide_eq_false_iff_not] at g2
        rw [nI_le_iff (by omega) (by omega)] at g2
        refine mj_b_rload_n (hE := fe_97_57) (hv := rfl) (k := ?_)
        refine mj_b_bipush (hE := fe_97_58) (k := ?_)
        refine mj_b_callR (hE := fe_97_60) (hi := in_95) (h1 := g95' 41 hm h) (hc := mj_cok_v rfl rfl h87) (ha := rfl) (hr := rfl) ?_
        refine mj_b_if1 (hE := fe_97_63) (kt := fun g3 => ?_) (kf := fun g3 => ?_)
        · simp only [mj_cnd, Bool.not_eq_true', decide_eq_false_iff_not, pz_0, Bool.not_eq_false, decide_eq_true_eq, Decidable.not_not] at g3
          exact p97 (D := D) hm h hf ha hn h0 (fun hfm => ⟨hfm0, hin, Or.inr g3⟩)
        · simp only [mj_cnd, Bool.not_eq_false', decide_eq_true_eq, pz_0, decide_eq_false_iff_not] at g3
          obtain ⟨s1, y1, i1, i2, i3, i4, i5, i6, i7, i8, i9⟩ := hin
          have hs36 : s1 = 3 ∨ s1 = 6 := by rcases i2 with i2 | i2; exact Or.inl i2.1; exact Or.inr i2.1
          subst g
          rw [i5] at h
          refine mj_b_rload_n (hE := fe_97_66) (hv := rfl) (k := ?_)
          refine mj_b_iload_n (hE := fe_97_67) (hv := rfl) (k := ?_)
          refine mj_b_call (hE := fe_97_68) (hi := in_98) (h1 := g98 (z := z) (T := T) p hm h (ht0.f7 hf) hnt hnl hnm i1 hs36 i6 (by omega) (fun e => by rcases i2 with i2 | i2; rw [i2.1] at e; exact absurd e (by decide); exact i2.2.2) g3 hab) (hc := mj_cok_v rfl rfl h87) (ha := rfl) (hr := rfl) ?_
          rintro v' M1 ⟨I2, b, hM, hf2, hcase⟩
          cases hM
          have p87 : ∀ t : Bool, t = (al && b) → ∀ u v4, mj_T pj_P 97 87 [.ref 87, .int ab, u, .int (nI n), v4] [.int (pz t)] (mz_SH L, I2, R) (rl_post L z hs T p fm hd C lc gp' a I0 R) := by
            intro t htt u v4
            refine mj_b_istore_n (hE := fe_97_87) (hx := Nat.le_of_ble_eq_true rfl) (k := ?_)
            refine mj_b_iinc (hE := fe_97_88) (hv := rfl) (k := ?_)
            refine mj_b_goto (hE := fe_97_91) (k := ?_)
            refine (show mj_T pj_P 97 39 [.ref 87, .int ab, .int (pz t), .int (nI n + 1), v4] [] (mz_SH L, I2, R) _ from ?_)
            rw [← nI_succ]
            have hn2 : n + 1 ≤ 24 := by
              rw [i3]
              rw [List.length_append] at i6
              omega
            rcases hcase with ⟨a', ts', j1, j2, j3⟩ | ⟨a', c, y', j1, j2, j3, j4, j5, j6, j7, j8⟩
            · exact l97f hm j1 (hf.trans hf2) j2 hn2 j3
            · refine ih I2 a' (n + 1) true t _ (D ++ [c]) v4 (by omega) j1 (hf.trans hf2) (by omega) hn2 (fun e => by cases e) (fun _ => ⟨hfm0, 6, y', ?_, Or.inr ⟨rfl, by simp, j6⟩, by simp [i3], ?_, by rw [List.append_assoc], ?_, j3, by omega, ?_⟩)
              · rw [j2, List.append_assoc]
              · rw [htt, i4, j8, List.all_append]
                simp
              · rw [← List.append_assoc]; exact j5
              · intro x hx
                rcases List.mem_append.mp hx with hx | hx
                · exact i9 x hx
                · rw [List.mem_singleton.mp hx]; exact j7
          refine (show mj_T pj_P 97 71 [.ref 87, .int ab, .int (pz al), .int (nI n), v4] [.int (pz b)] (mz_SH L, I2, R) _ from ?_)
          refine mj_b_istore (hE := fe_97_71) (hx := Nat.le_of_ble_eq_true rfl) (k := ?_)
          refine mj_b_iload_n (hE := fe_97_73) (hv := rfl) (k := ?_)
          refine mj_b_if1 (hE := fe_97_74) (kt := fun m => ?_) (kf := fun m => ?_)
          · simp only [mj_cnd, decide_eq_true_eq, pz_0] at m
            refine mj_b_iconst (hE := fe_97_86) (k := ?_)
            exact p87 false (by simp [m]) _ _
          · simp only [mj_cnd, decide_eq_false_iff_not, pz_0, Bool.not_eq_false] at m
            refine mj_b_iload (hE := fe_97_77) (hv := rfl) (k := ?_)
            refine mj_b_if1 (hE := fe_97_79) (kt := fun m2 => ?_) (kf := fun m2 => ?_)
            · simp only [mj_cnd, decide_eq_true_eq, pz_0] at m2
              refine mj_b_iconst (hE := fe_97_86) (k := ?_)
              exact p87 false (by simp [m2]) _ _
            · simp only [mj_cnd, decide_eq_false_iff_not, pz_0, Bool.not_eq_false] at m2
              refine mj_b_iconst (hE := fe_97_82) (k := ?_)
              refine mj_b_goto (hE := fe_97_83) (k := ?_)
              exact p87 true (by simp [m, m2]) _ _
set_option maxHeartbeats 2000000 in
/-- LockedTreeModel.readList -/
theorem g97 (p : Int32) {ab lc gp gp' s : Int32} {y : Int32 × Int32} {C : List ty_cd} (hm : mm_ok R) (h : hm_rep hs a fm hd ts I) (ha : a ≤ 40) (ht : md_rep 0 T I) (hnt : ar_nd T.1) (hnl : al_nd T.2.1) (hnm : ∀ c ∈ hs, pf_named c = true) (hb : fm = false → hd_gd z hs = false)
    (hp : fm = true → ts = tsof C ∧ hd_at z hs a = (C, lc, a, s, gp, y) ∧ hp_op hs a s gp gp' y ∧ ab = (if gp' = -1 then p else gp') ∧ 2 * C.length ≤ a ∧ a ≤ hs.length ∧ (s = 2 ∨ a < hs.length) ∧ (hs[a]? = some 47 → s = 2 ∨ (s = 7 ∧ gp = -1))) :
    mj_G pj_P 97 [.ref 87, .int ab] (mz_SH L, I, R) (rl_post L z hs T p fm hd C lc gp' a I R) := by
  have h87 := sm_87 L
  have g14 := h.2.2.2.1
  have c1 := h.2.2.1.1
  have p22 : ∀ t : Bool, t = (fm && decide (hs[a]? = some 40)) → mj_T pj_P 97 22 [.ref 87, .int ab, .retAddr 0, .retAddr 0, .retAddr 0] [.int (pz t), .ref 87] (mz_SH L, I, R) (rl_post L z hs T p fm hd C lc gp' a I R) := by
    intro t htt
    have h2 := (h.fm' t).at' (n := a + 1) (by omega)
    have f2 : fr_7 I (mj_u (mj_u I 87 14 (pz t)) 87 13 (nI (a + 1))) := (fr_7.u (by omega) (by omega)).trans (fr_7.u (by omega) (by omega))
    refine mj_b_putI (hE := fe_97_22) (hw := Or.inr ⟨rfl, pz_01 _⟩) (hM := h87) (k := ?_)
    refine mj_b_rload_n (hE := fe_97_25) (hv := rfl) (k := ?_)
    refine mj_b_dup (hE := fe_97_26) (hv := rfl) (k := ?_)
    refine mj_b_getV (hE := fe_97_27) (v := nI a) (hM := h87) (hv := by simp [mj_u, c1]) (k := ?_)
    refine mj_b_iconst (hE := fe_97_30) (k := ?_)
    refine mj_b_iadd (hE := fe_97_31) (k := ?_)
    refine mj_b_putI (hE := fe_97_32) (hw := Or.inl rfl) (hM := by assumption) (k := ?_)
    refine mj_b_iconst (hE := fe_97_35) (k := ?_)
    refine mj_b_istore_n (hE := fe_97_36) (hx := Nat.le_of_ble_eq_true rfl) (k := ?_)
    refine mj_b_iconst (hE := fe_97_37) (k := ?_)
    refine mj_b_istore_n (hE := fe_97_38) (hx := Nat.le_of_ble_eq_true rfl) (k := ?_)
    refine (show mj_T pj_P 97 39 [.ref 87, .int ab, .int (pz true), .int (nI 0), .retAddr 0] [] (mz_SH L, mj_u (mj_u I 87 14 (pz t)) 87 13 (nI a + 1), R) _ from ?_)
    rw [← nI_succ]
    rcases Bool.eq_false_or_eq_true fm with hfm | hfm
    · obtain ⟨k1, k2, k3, k4, k5, k6, k7, k8⟩ := hp hfm
      by_cases h40 : hs[a]? = some 40
      · have hte : t = true := by rw [htt, hfm, decide_eq_true h40]; rfl
        have hlt := (List.getElem?_eq_some_iff.mp h40).1
        refine l97 (C := C) (hd := hd) hm ht hnt hnl hnm k4 (hs.length + 1) _ (a + 1) 0 t true ts [] _ (by omega) h2 f2 (by omega) (by omega) (fun e => by rw [hte] at e; cases e) (fun _ => ⟨hfm, 3, y, ?_, Or.inl ⟨rfl, rfl⟩, rfl, rfl, ?_, ?_, by omega, by omega, by simp⟩)
        · rw [List.append_nil]; exact hp_open k2 k3 h40
        · rw [List.append_nil]; exact k1
        · rw [List.append_nil]; omega
      · have hte : t = false := by rw [htt, decide_eq_false h40, Bool.and_false]
        rw [hte] at h2 f2 ⊢
        exact l97f hm h2 f2 (by omega) (by omega) (hp_noopen k2 k3 h40 k6 k7 k8)
    · have hte : t = false := by rw [htt, hfm]; rfl
      rw [hte] at h2 f2 ⊢
      exact l97f hm h2 f2 (by omega) (by omega) (hb hfm)
  refine mj_enter in_97 (L := [.ref 87, .int ab, .retAddr 0, .retAddr 0, .retAddr 0]) rfl ?_
  refine mj_b_rload_n (hE := fe_97_0) (hv := rfl) (k := ?_)
  refine mj_b_rload_n (hE := fe_97_1) (hv := rfl) (k := ?_)
  refine mj_b_getV (hE := fe_97_2) (hM := by assumption) (hv := by assumption) (k := ?_)
  refine mj_b_if1 (hE := fe_97_5) (kt := fun g => ?_) (kf := fun g => ?_)
  · simp only [mj_cnd, decide_eq_true_eq, pz_0] at g
    refine mj_b_iconst (hE := fe_97_21) (k := ?_)
    exact p22 false (by simp [g])
  · simp only [mj_cnd, decide_eq_false_iff_not, pz_0, Bool.not_eq_false] at g
    refine mj_b_rload_n (hE := fe_97_8) (hv := rfl) (k := ?_)
    refine mj_b_bipush (hE := fe_97_9) (k := ?_)
    refine mj_b_callR (hE := fe_97_11) (hi := in_95) (h1 := g95' 40 hm h) (hc := mj_cok_v rfl rfl h87) (ha := rfl) (hr := rfl) ?_
    refine mj_b_if1 (hE := fe_97_14) (kt := fun g2 => ?_) (kf := fun g2 => ?_)
    · simp only [mj_cnd, decide_eq_true_eq, pz_0, decide_eq_false_iff_not] at g2
      refine mj_b_iconst (hE := fe_97_21) (k := ?_)
      exact p22 false (by simp [g2])
    · simp only [mj_cnd, decide_eq_false_iff_not, pz_0, Decidable.not_not] at g2
      refine mj_b_iconst (hE := fe_97_17) (k := ?_)
      refine mj_b_goto (hE := fe_97_18) (k := ?_)
      exact p22 true (by simp [g, g2])
end ML
