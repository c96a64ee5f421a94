/-! ===== the model: a condition is read ===== -/
/-- the tokens that conditions submit -/
def tsof (C : List ty_cd) : List Int32 := (C.filter (fun c => c.2.2.1)).map (fun c => c.2.2.2.2)
theorem tsof_len (C : List ty_cd) : (tsof C).length ≤ C.length := by
  unfold tsof
  rw [List.length_map]
  exact List.length_filter_le _ _
theorem tsof_app (C : List ty_cd) (c : ty_cd) : tsof (C ++ [c]) = if c.2.2.1 = true then tsof C ++ [c.2.2.2.2] else tsof C := by
  unfold tsof
  rw [List.filter_append, List.map_append, List.filter_cons, List.filter_nil]
  split
  · rfl
  · simp
theorem tsof_sub (C : List ty_cd) (t : Int32) : sb_of (tsof C) t = a_sub C t := by
  unfold sb_of tsof a_sub
  rw [List.any_map, List.any_filter]
  rfl
theorem al_any {ls : List ty_lk} (h : al_nd ls) (v q : Int32) : ls.any (fun l => decide (l.1 = v) && a_cov q l) = (match al_get ls v with
    | some l => a_cov q l
    | none => false) := by
  cases hg : al_get ls v with
  | none =>
    rw [List.any_eq_false]
    intro l hl
    have := List.find?_eq_none.mp hg l hl
    simp only [decide_eq_true_eq] at this
    simp [this]
  | some l =>
    obtain ⟨h1, h2⟩ := (al_get_iff h).mp hg
    simp only
    rw [Bool.eq_iff_iff, List.any_eq_true]
    constructor
    · rintro ⟨l', h3, h4⟩
      simp only [Bool.and_eq_true, decide_eq_true_eq] at h4
      have := kf_uniq (k := fun l : ty_lk => l.1) h h1 h3 (h2.trans h4.1.symm)
      rw [this]
      exact h4.2
    · intro hc
      exact ⟨l, h1, by simp [h2, hc]⟩
section MG
variable {L a : Nat} {T : ty_st} {ts hs : List Int32} {fm hd : Bool} {I I' I0 : Nat → Nat → Int32} {R : Nat → Nat → Option Nat} {Q : Option Value × mj_H → Prop} {z : Int32 × Int32}
set_option maxHeartbeats 2000000 in
theorem l98 {ab v : Int32} {v2 v3 : Value} (hm : mm_ok R) (ht : md_rep 0 T I)
    (hk : ∀ v6, mj_T pj_P 98 199 [.ref 87, .int ab, v2, v3, .int v, .int (pz (T.2.1.any (fun l => decide (l.1 = v) && a_cov ab l))), v6] [] (mz_SH L, I, R) Q) :
    ∀ (k i : Nat) (ys : Bool), i + k = T.2.1.length → (ys || (T.2.1.drop i).any (fun l => decide (l.1 = v) && a_cov ab l)) = T.2.1.any (fun l => decide (l.1 = v) && a_cov ab l) → mj_T pj_P 98 113 [.ref 87, .int ab, v2, v3, .int v, .int (pz ys), .int (nI i)] [] (mz_SH L, I, R) Q := by
  have hm0 := hm
  obtain ⟨q0, q1, q2, q3, q4, q5, q6, q7, q8, q9, q10, q11, q16, q21⟩ := hm
  have h87 := sm_87 L
  have h93 := sm_93 L
  have h98 := sm_98 L
  have hn := ht.2.2.1.1
  simp only [Nat.mul_zero, Nat.zero_add] at hn
  have hn6 := ht.2.2.1.2
  intro k
  induction k with
  | zero =>
    intro i ys hi hy
    have hin : i = T.2.1.length := by omega
    subst hin
    rw [List.drop_length] at hy
    simp only [List.any_nil, Bool.or_false] at hy
    rw [← hy] at hk
    refine mj_b_iload (hE := fe_98_113) (hv := rfl) (k := ?_)
    refine mj_b_rload_n (hE := fe_98_115) (hv := rfl) (k := ?_)
    refine mj_b_getQ (hE := fe_98_116) (hM := by assumption) (hv := by assumption) (k := ?_)
    refine mj_b_iconst (hE := fe_98_119) (k := ?_)
    refine mj_b_ialdN (hE := fe_98_120) (c := 1) (hM := by assumption) (ht := Or.inr rfl) (hj := rfl) (hc := by decide) (hn := by decide) (hv := by first | assumption | rfl) (k := ?_)
    refine mj_b_if2 (hE := fe_98_121) (kt := fun g => ?_) (kf := fun g => ?_)
    · refine mj_b_goto (hE := fe_98_164) (k := ?_)
      exact hk _
    · simp [mj_cnd] at g
  | succ k ih =>
    intro i ys hi hy
    have hlt : i < T.2.1.length := by omega
    have hgi : T.2.1[i]? = some T.2.1[i] := List.getElem?_eq_getElem hlt
    obtain ⟨e0, -⟩ := ht.2.2.2.2.1 i _ hgi
    rw [Nat.mul_zero, Nat.zero_add] at e0
    have gc := ht.cv (L := L) hgi ab hm0
    rw [Nat.mul_zero, Nat.zero_add] at gc
    rw [drop_get hlt, List.any_cons] at hy
    have h156 : ∀ (t : Bool) (u : Value), t = (ys || (decide ((T.2.1[i]).1 = v) && a_cov ab T.2.1[i])) → mj_T pj_P 98 156 [.ref 87, .int ab, v2, v3, .int v, u, .int (nI i)] [.int (pz t)] (mz_SH L, I, R) Q := by
      intro t u htt
      refine mj_b_istore (hE := fe_98_156) (hx := Nat.le_of_ble_eq_true rfl) (k := ?_)
      refine mj_b_iinc (hE := fe_98_158) (hv := rfl) (k := ?_)
      refine mj_b_goto (hE := fe_98_161) (k := ?_)
      refine (show mj_T pj_P 98 113 [.ref 87, .int ab, v2, v3, .int v, .int (pz t), .int (nI i + 1)] [] (mz_SH L, I, R) Q from ?_)
      rw [← nI_succ]
      exact ih (i + 1) t (by omega) (by rw [htt, Bool.or_assoc]; exact hy)
    refine mj_b_iload (hE := fe_98_113) (hv := rfl) (k := ?_)
    refine mj_b_rload_n (hE := fe_98_115) (hv := rfl) (k := ?_)
    refine mj_b_getQ (hE := fe_98_116) (hM := by assumption) (hv := by assumption) (k := ?_)
    refine mj_b_iconst (hE := fe_98_119) (k := ?_)
    refine mj_b_ialdN (hE := fe_98_120) (c := 1) (hM := by assumption) (ht := Or.inr rfl) (hj := rfl) (hc := by decide) (hn := by decide) (hv := by first | assumption | rfl) (k := ?_)
    refine mj_b_if2 (hE := fe_98_121) (kt := fun g => ?_) (kf := fun g => ?_)
    · simp only [mj_cnd, decide_eq_true_eq] at g
      exact absurd g (nI_ge (by omega) (by omega))
    · refine mj_b_iload (hE := fe_98_124) (hv := rfl) (k := ?_)
      refine mj_b_if1 (hE := fe_98_126) (kt := fun g2 => ?_) (kf := fun g2 => ?_)
      · simp only [mj_cnd, Bool.not_eq_true', decide_eq_false_iff_not, pz_0, Bool.not_eq_false] at g2
        refine mj_b_iconst (hE := fe_98_151) (k := ?_)
        refine mj_b_goto (hE := fe_98_152) (k := ?_)
        exact h156 true _ (by simp [g2])
      · simp only [mj_cnd, Bool.not_eq_false', decide_eq_true_eq, pz_0] at g2
        refine mj_b_rload_n (hE := fe_98_129) (hv := rfl) (k := ?_)
        refine mj_b_getQ (hE := fe_98_130) (hM := by assumption) (hv := by assumption) (k := ?_)
        refine mj_b_iload (hE := fe_98_133) (hv := rfl) (k := ?_)
        refine mj_b_ialdN (hE := fe_98_135) (hM := h93) (ht := Or.inr rfl) (hj := rfl) (hc := by omega) (hn := by decide) (hv := e0) (k := ?_)
        refine mj_b_iload (hE := fe_98_136) (hv := rfl) (k := ?_)
        refine mj_b_if2 (hE := fe_98_138) (kt := fun g3 => ?_) (kf := fun g3 => ?_)
        · simp only [mj_cnd, Bool.not_eq_true', decide_eq_false_iff_not] at g3
          refine mj_b_iconst (hE := fe_98_155) (k := ?_)
          exact h156 false _ (by simp [g2, g3])
        · simp only [mj_cnd, Bool.not_eq_false', decide_eq_true_eq] at g3
          refine mj_b_rload_n (hE := fe_98_141) (hv := rfl) (k := ?_)
          refine mj_b_iload (hE := fe_98_142) (hv := rfl) (k := ?_)
          refine mj_b_iload_n (hE := fe_98_144) (hv := rfl) (k := ?_)
          refine mj_b_callR (hE := fe_98_145) (hi := in_99) (h1 := gc) (hc := mj_cok_v rfl rfl h87) (ha := rfl) (hr := rfl) ?_
          refine mj_b_if1 (hE := fe_98_148) (kt := fun g4 => ?_) (kf := fun g4 => ?_)
          · simp only [mj_cnd, decide_eq_true_eq, pz_0] at g4
            refine mj_b_iconst (hE := fe_98_155) (k := ?_)
            exact h156 false _ (by simp [g2, g4])
          · simp only [mj_cnd, decide_eq_false_iff_not, pz_0, Bool.not_eq_false] at g4
            refine mj_b_iconst (hE := fe_98_151) (k := ?_)
            refine mj_b_goto (hE := fe_98_152) (k := ?_)
            exact h156 true _ (by simp [g3, g4])
/-- what reading a condition leaves -/
def rc_post (L : Nat) (z : Int32 × Int32) (hs : List Int32) (T : ty_st) (p : Int32) (hd : Bool) (C : List ty_cd) (lc gp : Int32) (a : Nat) (I0 : Nat → Nat → Int32) (R : Nat → Nat → Option Nat) (r : Option Value × mj_H) : Prop :=
  ∃ I' b, r = (some (.int (pz b)), (mz_SH L, I', R)) ∧ fr_7 I0 I' ∧
    ((∃ a' ts', hm_rep hs a' false hd ts' I' ∧ a' ≤ 50 ∧ hd_gd z hs = false) ∨
     (∃ a' c y', hm_rep hs a' true hd (tsof (C ++ [c])) I' ∧ hd_at z hs a' = (C ++ [c], lc, a', 6, gp, y') ∧ a' ≤ hs.length ∧ a < a' ∧ 2 * (C ++ [c]).length + 1 ≤ a' ∧ (∀ x, hs[a']? = some x → pf_dig x = false) ∧ c.1 = lc ∧ b = a_cnd T.1 T.2.1 p c))
set_option maxHeartbeats 2000000 in
/-- LockedTreeModel.readCondition -/
theorem g98 (p : Int32) {C : List ty_cd} {lc gp s : Int32} {y : Int32 × Int32} (hm : mm_ok R) (h : hm_rep hs a true hd (tsof C) I) (ht : md_rep 0 T I) (hnt : ar_nd T.1) (hnl : al_nd T.2.1) (hnm : ∀ c ∈ hs, pf_named c = true) (hA : hd_at z hs a = (C, lc, a, s, gp, y)) (hs36 : s = 3 ∨ s = 6) (hC : 2 * C.length + 1 ≤ a) (ha : a < hs.length) (hd6 : s = 6 → ∀ c, hs[a]? = some c → pf_dig c = false) (h41 : hs[a]? ≠ some 41) {ab : Int32} (hab : ab = if gp = -1 then p else gp) :
    mj_G pj_P 98 [.ref 87, .int ab] (mz_SH L, I, R) (rc_post L z hs T p hd C lc gp a I R) := by
  have hm0 := hm
  obtain ⟨q0, q1, q2, q3, q4, q5, q6, q7, q8, q9, q10, q11, q16, q21⟩ := hm
  have h87 := sm_87 L
  have h100 := sm_100 L
  have h91 := sm_91 L
  have h24 := h.1.2
  obtain ⟨hbad, hgood⟩ := hp_cond (z := z) hnm h24 hA hs36 hC ha hd6 h41
  have hi1 : a ≤ hp_i1 hs a ∧ hp_i1 hs a ≤ a + 1 := by unfold hp_i1; split <;> omega
  generalize hng : decide (hs[a]? = some 33) = ng at hgood
  have hrn0 : hp_rn hs a = rn_go (hs.drop (hp_i1 hs a + 1)) 0 0 := rfl
  rw [hrn0] at hgood
  generalize hi1e : hp_i1 hs a = i1 at hbad hgood hi1
  clear hrn0
  have hrge := rn_ge (hs.drop (i1 + 1)) 0 0
  rw [List.length_drop] at hrge
  have p85 : ∀ (I1 : Nat → Nat → Int32) (tk : Bool) (v6 : Value), tk = decide (hs[i1]? = some 116) → (hs[i1]? = some 116 ∨ hs[i1]? = some 101) → (1 ≤ (rn_go (hs.drop (i1 + 1)) 0 0).2 ∧ (rn_go (hs.drop (i1 + 1)) 0 0).2 ≤ 4) → hm_rep hs (i1 + 1 + (rn_go (hs.drop (i1 + 1)) 0 0).2) true hd (tsof C) I1 → fr_7 I I1 → mj_T pj_P 98 85 [.ref 87, .int ab, .int (pz ng), .int (pz tk), .int (rn_go (hs.drop (i1 + 1)) 0 0).1, .int 0, v6] [] (mz_SH L, I1, R) (rc_post L z hs T p hd C lc gp a I R) := by
    intro I1 tk v6 htk hyes hdd h1 hf
    obtain ⟨b1, b2, -, b4⟩ := hgood hyes
    have b5 := b4 hdd
    rw [← htk] at b5
    generalize (rn_go (hs.drop (i1 + 1)) 0 0).1 = v at b5 ⊢
    generalize (rn_go (hs.drop (i1 + 1)) 0 0).2 = d at *
    have h199 : ∀ (ys : Bool) (I2 : Nat → Nat → Int32) (v6 : Value), (ys != ng) = a_cnd T.1 T.2.1 p (lc, gp, tk, ng, v) → hm_rep hs (i1 + 1 + d) true hd (tsof (C ++ [(lc, gp, tk, ng, v)])) I2 → fr_7 I I2 → mj_T pj_P 98 199 [.ref 87, .int ab, .int (pz ng), .int (pz tk), .int v, .int (pz ys), v6] [] (mz_SH L, I2, R) (rc_post L z hs T p hd C lc gp a I R) := by
      intro ys I2 v6 hys h2 hf2
      have fin : ∀ Lc, mj_T pj_P 98 210 Lc [.int (pz (ys != ng))] (mz_SH L, I2, R) (rc_post L z hs T p hd C lc gp a I R) := by
        intro Lc
        refine mj_b_retZ (hE := fe_98_210) (hi := in_98) (pz_01 _) ⟨I2, ys != ng, rfl, hf2, Or.inr ⟨i1 + 1 + d, (lc, gp, tk, ng, v), _, h2, b5, b1, by omega, ?_, b2, rfl, hys⟩⟩
        rw [List.length_append, List.length_cons, List.length_nil]
        omega
      refine mj_b_iload (hE := fe_98_199) (hv := rfl) (k := ?_)
      refine mj_b_iload_n (hE := fe_98_201) (hv := rfl) (k := ?_)
      refine mj_b_if2 (hE := fe_98_202) (kt := fun g => ?_) (kf := fun g => ?_)
      · simp only [mj_cnd, decide_eq_true_eq] at g
        refine mj_b_iconst (hE := fe_98_209) (k := ?_)
        have e : (ys != ng) = false := by cases ys <;> cases ng <;> first | rfl | (exfalso; revert g; decide)
        have := fin
        rw [e] at this
        exact this _
      · simp only [mj_cnd, decide_eq_false_iff_not] at g
        refine mj_b_iconst (hE := fe_98_205) (k := ?_)
        refine mj_b_goto (hE := fe_98_206) (k := ?_)
        have e : (ys != ng) = true := by cases ys <;> cases ng <;> first | rfl | (exfalso; revert g; decide)
        have := fin
        rw [e] at this
        exact this _
    have htsl : (tsof C).length < 12 := by have := tsof_len C; omega
    refine mj_b_iload_n (hE := fe_98_85) (hv := rfl) (k := ?_)
    refine mj_b_if1 (hE := fe_98_86) (kt := fun g => ?_) (kf := fun g => ?_)
    · simp only [mj_cnd, decide_eq_true_eq, pz_0] at g
      subst g
      have ht1 := ht.f7 hf
      refine mj_b_rload_n (hE := fe_98_167) (hv := rfl) (k := ?_)
      refine mj_b_iload_n (hE := fe_98_168) (hv := rfl) (k := ?_)
      refine mj_b_iconst (hE := fe_98_169) (k := ?_)
      refine mj_b_callR (hE := fe_98_170) (hi := in_101) (h1 := g101' (s := 0) ab hm0 ht1 hnt) (hc := mj_cok_v rfl rfl h87) (ha := rfl) (hr := rfl) ?_
      have hts : tsof (C ++ [(lc, gp, false, ng, v)]) = tsof C := by rw [tsof_app]; rfl
      have e197 : ∀ (t : Bool) (u u2 : Value), t = (match ar_get T.1 ab with
          | some r => decide (r.2.2.2.1 = v)
          | none => false) → mj_T pj_P 98 197 [.ref 87, .int ab, .int (pz ng), .int (pz false), .int v, u, u2] [.int (pz t)] (mz_SH L, I1, R) (rc_post L z hs T p hd C lc gp a I R) := by
        intro t u u2 htt
        refine mj_b_istore (hE := fe_98_197) (hx := Nat.le_of_ble_eq_true rfl) (k := ?_)
        refine h199 t I1 _ ?_ (by rw [hts]; exact h1) hf
        simp only [a_cnd, Bool.false_eq_true, if_false, ← hab, htt]
        all_goals (cases ar_get T.1 ab <;> rfl)
      cases hfi : ar_fi T.1 ab with
      | none =>
        have hg := ar_fi_getN hfi
        refine mj_b_istore (hE := fe_98_173) (hx := Nat.le_of_ble_eq_true rfl) (k := ?_)
        refine mj_b_iload (hE := fe_98_175) (hv := rfl) (k := ?_)
        refine mj_b_if1 (hE := fe_98_177) (kt := fun m => ?_) (kf := fun m => ?_)
        · refine mj_b_iconst (hE := fe_98_196) (k := ?_)
          exact e197 false _ _ (by rw [hg])
        · exact absurd m (by decide)
      | some j =>
        obtain ⟨r, hr, -⟩ := ar_fi_some hfi
        have hg := ar_fi_get hfi
        rw [hr] at hg
        have hjl := (List.getElem?_eq_some_iff.mp hr).1
        have hj13 := ht.2.1.2
        have hrj := ht1.2.2.2.1 j r hr
        rw [Nat.mul_zero, Nat.zero_add] at hrj
        have hst := hrj.2.2.2.1
        refine mj_b_istore (hE := fe_98_173) (hx := Nat.le_of_ble_eq_true rfl) (k := ?_)
        refine mj_b_iload (hE := fe_98_175) (hv := rfl) (k := ?_)
        refine mj_b_if1 (hE := fe_98_177) (kt := fun m => ?_) (kf := fun m => ?_)
        · exact absurd (of_decide_eq_true m) (nI_pos (n := 20 * 0 + j) (by omega))
        · refine mj_b_rload_n (hE := fe_98_180) (hv := rfl) (k := ?_)
          refine mj_b_getQ (hE := fe_98_181) (hM := by assumption) (hv := by assumption) (k := ?_)
          refine mj_b_iload (hE := fe_98_184) (hv := rfl) (k := ?_)
          refine mj_b_ialdN (hE := fe_98_186) (v := r.2.2.2.1) (c := j) (hM := h91) (ht := Or.inr rfl) (hj := show nI (20 * 0 + j) = nI j by rw [Nat.mul_zero, Nat.zero_add]) (hc := by omega) (hn := by decide) (hv := hst) (k := ?_)
          refine mj_b_iload (hE := fe_98_187) (hv := rfl) (k := ?_)
          refine mj_b_if2 (hE := fe_98_189) (kt := fun m2 => ?_) (kf := fun m2 => ?_)
          · simp only [mj_cnd, Bool.not_eq_true', decide_eq_false_iff_not] at m2
            refine mj_b_iconst (hE := fe_98_196) (k := ?_)
            exact e197 false _ _ (by rw [← hg]; simp [m2])
          · simp only [mj_cnd, Bool.not_eq_false', decide_eq_true_eq] at m2
            refine mj_b_iconst (hE := fe_98_192) (k := ?_)
            refine mj_b_goto (hE := fe_98_193) (k := ?_)
            exact e197 true _ _ (by rw [← hg]; simp [m2])
    · simp only [mj_cnd, decide_eq_false_iff_not, pz_0, Bool.not_eq_false] at g
      subst g
      have hsb := h1.2.2.2.2.2.1.1
      have hts : tsof (C ++ [(lc, gp, true, ng, v)]) = tsof C ++ [v] := by rw [tsof_app]; rfl
      refine mj_b_rload_n (hE := fe_98_89) (hv := rfl) (k := ?_)
      refine mj_b_getQ (hE := fe_98_90) (hM := by assumption) (hv := by assumption) (k := ?_)
      refine mj_b_rload_n (hE := fe_98_93) (hv := rfl) (k := ?_)
      refine mj_b_getV (hE := fe_98_94) (hM := by assumption) (hv := by assumption) (k := ?_)
      refine mj_b_iload (hE := fe_98_97) (hv := rfl) (k := ?_)
      refine mj_b_iastN (hE := fe_98_99) (hM := h100) (hj := rfl) (hc := htsl) (hn := by decide) (k := ?_)
      refine mj_b_rload_n (hE := fe_98_100) (hv := rfl) (k := ?_)
      refine mj_b_dup (hE := fe_98_101) (hv := rfl) (k := ?_)
      refine mj_b_getV (hE := fe_98_102) (v := nI (tsof C).length) (hM := h87) (hv := by simp [mj_u, hsb]) (k := ?_)
      refine mj_b_iconst (hE := fe_98_105) (k := ?_)
      refine mj_b_iadd (hE := fe_98_106) (k := ?_)
      refine mj_b_putI (hE := fe_98_107) (hw := Or.inl rfl) (hM := by assumption) (k := ?_)
      refine mj_b_iconst (hE := fe_98_110) (k := ?_)
      refine mj_b_istore (hE := fe_98_111) (hx := Nat.le_of_ble_eq_true rfl) (k := ?_)
      have h2 := h1.sub' htsl v
      have hf2 : fr_7 I (mj_u (mj_u I1 100 (tsof C).length v) 87 17 (nI (tsof C).length + 1)) := (hf.trans fr_7.u2).trans (fr_7.u (by omega) (by omega))
      have ht2 := ht.f7 hf2
      refine l98 (T := T) hm0 ht2 ?_ T.2.1.length 0 false (by omega) (by simp)
      intro v6
      refine h199 _ _ v6 ?_ (by rw [hts]; exact h2) hf2
      simp only [a_cnd, if_true, ← hab]
      rw [al_any hnl]
      all_goals (cases al_get T.2.1 v <;> rfl)
  have p54 : ∀ (I1 : Nat → Nat → Int32) (tk t : Bool), tk = decide (hs[i1]? = some 116) → t = decide (hs[i1]? = some 116 ∨ hs[i1]? = some 101) → hm_rep hs i1 true hd (tsof C) I1 → fr_7 I I1 → mj_T pj_P 98 54 [.ref 87, .int ab, .int (pz ng), .int (pz tk), .retAddr 0, .retAddr 0, .retAddr 0] [.int (pz t), .ref 87] (mz_SH L, I1, R) (rc_post L z hs T p hd C lc gp a I R) := by
    intro I1 tk t htk htt h1 hf
    have c1 := h1.2.2.1.1
    refine mj_b_putI (hE := fe_98_54) (hw := Or.inr ⟨rfl, pz_01 _⟩) (hM := h87) (k := ?_)
    refine mj_b_rload_n (hE := fe_98_57) (hv := rfl) (k := ?_)
    refine mj_b_dup (hE := fe_98_58) (hv := rfl) (k := ?_)
    refine mj_b_getV (hE := fe_98_59) (v := nI i1) (hM := h87) (hv := by simp [mj_u, c1]) (k := ?_)
    refine mj_b_iconst (hE := fe_98_62) (k := ?_)
    refine mj_b_iadd (hE := fe_98_63) (k := ?_)
    refine mj_b_putI (hE := fe_98_64) (hw := Or.inl rfl) (hM := by assumption) (k := ?_)
    refine (show mj_T pj_P 98 67 [.ref 87, .int ab, .int (pz ng), .int (pz tk), .retAddr 0, .retAddr 0, .retAddr 0] [] (mz_SH L, mj_u (mj_u I1 87 14 (pz t)) 87 13 (nI i1 + 1), R) _ from ?_)
    rw [← nI_succ]
    have h2 := (h1.fm' t).at' (n := i1 + 1) (by omega)
    have hf2 : fr_7 I (mj_u (mj_u I1 87 14 (pz t)) 87 13 (nI (i1 + 1))) := (hf.trans (fr_7.u (by omega) (by omega))).trans (fr_7.u (by omega) (by omega))
    refine mj_b_rload_n (hE := fe_98_67) (hv := rfl) (k := ?_)
    refine mj_b_call (hE := fe_98_68) (hi := in_96) (h1 := g96 hm0 h2 (by omega)) (hc := mj_cok_v rfl rfl h87) (ha := rfl) (hr := rfl) ?_
    rintro v' M1 ⟨I3, hM, h3, hf3⟩
    cases hM
    have hfm := h3.2.2.2.1
    refine (show mj_T pj_P 98 71 [.ref 87, .int ab, .int (pz ng), .int (pz tk), .retAddr 0, .retAddr 0, .retAddr 0] [.int (rn_go (hs.drop (i1 + 1)) 0 0).1] (mz_SH L, I3, R) _ from ?_)
    refine mj_b_istore (hE := fe_98_71) (hx := Nat.le_of_ble_eq_true rfl) (k := ?_)
    refine mj_b_iconst (hE := fe_98_73) (k := ?_)
    refine mj_b_istore (hE := fe_98_74) (hx := Nat.le_of_ble_eq_true rfl) (k := ?_)
    refine mj_b_rload_n (hE := fe_98_76) (hv := rfl) (k := ?_)
    refine mj_b_getV (hE := fe_98_77) (hM := by assumption) (hv := by assumption) (k := ?_)
    refine mj_b_if1 (hE := fe_98_80) (kt := fun g => ?_) (kf := fun g => ?_)
    · simp only [mj_cnd, Bool.not_eq_true', decide_eq_false_iff_not, pz_0, Bool.not_eq_false, Bool.and_eq_true] at g
      have hyes : hs[i1]? = some 116 ∨ hs[i1]? = some 101 := by rw [htt] at g; exact of_decide_eq_true g.1
      have hdd := of_decide_eq_true g.2
      have e : (t && decide (1 ≤ (rn_go (hs.drop (i1 + 1)) 0 0).2 ∧ (rn_go (hs.drop (i1 + 1)) 0 0).2 ≤ 4)) = true := by rw [g.1, g.2]; rfl
      rw [e] at h3
      exact p85 I3 tk _ htk hyes hdd h3 (hf2.trans hf3)
    · simp only [mj_cnd, Bool.not_eq_false', decide_eq_true_eq, pz_0] at g
      rw [g] at h3
      refine mj_b_iconst (hE := fe_98_83) (k := ?_)
      refine mj_b_retZ (hE := fe_98_84) (hi := in_98) (Or.inl rfl) ⟨I3, false, rfl, hf2.trans hf3, Or.inl ⟨_, _, h3, by omega, ?_⟩⟩
      by_cases hyes : hs[i1]? = some 116 ∨ hs[i1]? = some 101
      · refine (hgood hyes).2.2.1 ?_
        intro hdd
        rw [htt, decide_eq_true hyes, decide_eq_true hdd] at g
        cases g
      · exact hbad hyes
  have p21 : ∀ (I1 : Nat → Nat → Int32), hm_rep hs i1 true hd (tsof C) I1 → fr_7 I I1 → mj_T pj_P 98 21 [.ref 87, .int ab, .int (pz ng), .retAddr 0, .retAddr 0, .retAddr 0, .retAddr 0] [] (mz_SH L, I1, R) (rc_post L z hs T p hd C lc gp a I R) := by
    intro I1 h1 hf
    have hfm : I1 87 14 = pz true := h1.2.2.2.1
    refine mj_b_rload_n (hE := fe_98_21) (hv := rfl) (k := ?_)
    refine mj_b_bipush (hE := fe_98_22) (k := ?_)
    refine mj_b_callR (hE := fe_98_24) (hi := in_95) (h1 := g95' 116 hm0 h1) (hc := mj_cok_v rfl rfl h87) (ha := rfl) (hr := rfl) ?_
    refine mj_b_istore_n (hE := fe_98_27) (hx := Nat.le_of_ble_eq_true rfl) (k := ?_)
    refine mj_b_rload_n (hE := fe_98_28) (hv := rfl) (k := ?_)
    refine mj_b_rload_n (hE := fe_98_29) (hv := rfl) (k := ?_)
    refine mj_b_getV (hE := fe_98_30) (hM := by assumption) (hv := by assumption) (k := ?_)
    refine mj_b_if1 (hE := fe_98_33) (kt := fun g => ?_) (kf := fun g => ?_)
    · exact absurd g (by decide)
    · refine mj_b_iload_n (hE := fe_98_36) (hv := rfl) (k := ?_)
      refine mj_b_if1 (hE := fe_98_37) (kt := fun g2 => ?_) (kf := fun g2 => ?_)
      · simp only [mj_cnd, Bool.not_eq_true', decide_eq_false_iff_not, pz_0, Bool.not_eq_false, decide_eq_true_eq, Decidable.not_not] at g2
        refine mj_b_iconst (hE := fe_98_49) (k := ?_)
        refine mj_b_goto (hE := fe_98_50) (k := ?_)
        exact p54 I1 _ true rfl (by simp [g2]) h1 hf
      · simp only [mj_cnd, Bool.not_eq_false', decide_eq_true_eq, pz_0, decide_eq_false_iff_not] at g2
        refine mj_b_rload_n (hE := fe_98_40) (hv := rfl) (k := ?_)
        refine mj_b_bipush (hE := fe_98_41) (k := ?_)
        refine mj_b_callR (hE := fe_98_43) (hi := in_95) (h1 := g95' 101 hm0 h1) (hc := mj_cok_v rfl rfl h87) (ha := rfl) (hr := rfl) ?_
        refine mj_b_if1 (hE := fe_98_46) (kt := fun g3 => ?_) (kf := fun g3 => ?_)
        · simp only [mj_cnd, decide_eq_true_eq, pz_0, decide_eq_false_iff_not] at g3
          refine mj_b_iconst (hE := fe_98_53) (k := ?_)
          exact p54 I1 _ false rfl (by simp [g2, g3]) h1 hf
        · simp only [mj_cnd, decide_eq_false_iff_not, pz_0, Decidable.not_not] at g3
          refine mj_b_iconst (hE := fe_98_49) (k := ?_)
          refine mj_b_goto (hE := fe_98_50) (k := ?_)
          exact p54 I1 _ true rfl (by simp [g3]) h1 hf
  refine mj_enter in_98 (L := [.ref 87, .int ab, .retAddr 0, .retAddr 0, .retAddr 0, .retAddr 0, .retAddr 0]) rfl ?_
  refine mj_b_rload_n (hE := fe_98_0) (hv := rfl) (k := ?_)
  refine mj_b_bipush (hE := fe_98_1) (k := ?_)
  refine mj_b_callR (hE := fe_98_3) (hi := in_95) (h1 := g95' 33 hm0 h) (hc := mj_cok_v rfl rfl h87) (ha := rfl) (hr := rfl) ?_
  rw [hng]
  have c1 := h.2.2.1.1
  refine mj_b_istore_n (hE := fe_98_6) (hx := Nat.le_of_ble_eq_true rfl) (k := ?_)
  refine mj_b_iload_n (hE := fe_98_7) (hv := rfl) (k := ?_)
  refine mj_b_if1 (hE := fe_98_8) (kt := fun g => ?_) (kf := fun g => ?_)
  · simp only [mj_cnd, decide_eq_true_eq, pz_0] at g
    have e : i1 = a := by
      rw [← hng, decide_eq_false_iff_not] at g
      rw [← hi1e]
      unfold hp_i1
      rw [if_neg g]
    refine p21 I ?_ fr_7.refl
    rw [e]
    exact h
  · simp only [mj_cnd, decide_eq_false_iff_not, pz_0, Bool.not_eq_false] at g
    have e : i1 = a + 1 := by
      rw [← hng, decide_eq_true_eq] at g
      rw [← hi1e]
      unfold hp_i1
      rw [if_pos g]
    refine mj_b_rload_n (hE := fe_98_11) (hv := rfl) (k := ?_)
    refine mj_b_dup (hE := fe_98_12) (hv := rfl) (k := ?_)
    refine mj_b_getV (hE := fe_98_13) (hM := by assumption) (hv := by assumption) (k := ?_)
    refine mj_b_iconst (hE := fe_98_16) (k := ?_)
    refine mj_b_iadd (hE := fe_98_17) (k := ?_)
    refine mj_b_putI (hE := fe_98_18) (hw := Or.inl rfl) (hM := by assumption) (k := ?_)
    refine p21 _ ?_ (fr_7.u (by omega) (by omega))
    rw [← nI_succ, e]
    exact h.at' (by omega)
end MG
