/-! ===== the model: a tree is emptied; delete ===== -/
theorem sw_step {g : ty_rw → Bool} {l : List ty_rw} {j : Nat} (hj : j < l.length) {B : List ty_rw} (hB : B.Perm ((l.drop (j + 1)).filter (fun r => !g r))) :
    (g l[j] = true → ∃ B', B'.Perm ((l.drop j).filter (fun r => !g r)) ∧ sw_rem (l.take (j + 1) ++ B) j = l.take j ++ B') ∧ (g l[j] = false → (l[j] :: B).Perm ((l.drop j).filter (fun r => !g r)) ∧ l.take (j + 1) ++ B = l.take j ++ (l[j] :: B)) := by
  have e1 : l.take (j + 1) ++ B = l.take j ++ (l[j] :: B) := by rw [← List.take_append_getElem hj, List.append_assoc]; rfl
  constructor
  · intro hg
    obtain ⟨B', h1, h2⟩ := sw_rem_app (l.take j) B l[j]
    refine ⟨B', h1.trans ?_, ?_⟩
    · rw [drop_get hj, List.filter_cons, hg]
      exact hB
    · rw [e1]
      rw [List.length_take, Nat.min_eq_left (by omega)] at h2
      exact h2
  · intro hg
    refine ⟨?_, e1⟩
    rw [drop_get hj, List.filter_cons, hg]
    exact List.Perm.cons _ hB
section NH
variable {L n : Nat} {S Sx : ty_st} {H : ty_hd} {rs : List ty_rw} {U : ty_st} {ts hs ms : List Int32} {f w : Int32} {I I' I0 I1 : Nat → Nat → Int32} {R : Nat → Nat → Option Nat} {Q : Option Value × mj_H → Prop} {z : Int32 × Int32}
set_option maxHeartbeats 2000000 in
theorem l122 {q : Int32} (hm : mm_ok R) (h13 : U.1.length ≤ 13)
    (hk : ∀ I1 B v2, md_rep 1 (B, U.2) I1 → B.Perm (U.1.filter (ar_out q)) → fr_2 I0 I1 → mj_T pj_P 122 40 [.ref 87, .int q, v2] [] (mz_SH L, I1, R) Q) :
    ∀ (i : Nat) (I1 : Nat → Nat → Int32) (B : List ty_rw), i ≤ U.1.length → md_rep 1 (U.1.take i ++ B, U.2) I1 → B.Perm ((U.1.drop i).filter (ar_out q)) → fr_2 I0 I1 → mj_T pj_P 122 10 [.ref 87, .int q, .int (nI (19 + i))] [] (mz_SH L, I1, R) Q := by
  have hm0 := hm
  obtain ⟨q0, q1, q2, q3, q4, q5, q6, q7, q8, q9, q10, q11, q16, q21⟩ := hm
  have h87 := sm_87 L
  have h88 := sm_88 L
  intro i
  induction i with
  | zero =>
    intro I1 B hi h hB hf
    refine mj_b_iload_n (hE := fe_122_10) (hv := rfl) (k := ?_)
    refine mj_b_bipush (hE := fe_122_11) (k := ?_)
    refine mj_b_if2 (hE := fe_122_13) (kt := fun g => ?_) (kf := fun g => ?_)
    · exact hk _ B _ h hB hf
    · exact absurd g (by decide)
  | succ j ih =>
    intro I1 B hi h hB hf
    have hlt : j < U.1.length := by omega
    have hgj : (U.1.take (j + 1) ++ B)[j]? = some U.1[j] := by
      rw [List.getElem?_append_left (by rw [List.length_take]; omega), List.getElem?_take_of_lt (by omega)]
      exact List.getElem?_eq_getElem hlt
    have hrw := h.2.2.2.1 j _ hgj
    rw [Nat.mul_one] at hrw
    have hp := hrw.1
    obtain ⟨s1, s2⟩ := sw_step (g := fun r => pf_within r.1 q) hlt hB
    have hnx : ∀ I2 B, md_rep 1 (U.1.take j ++ B, U.2) I2 → B.Perm ((U.1.drop j).filter (ar_out q)) → fr_2 I0 I2 → mj_T pj_P 122 34 [.ref 87, .int q, .int (nI (20 + j))] [] (mz_SH L, I2, R) Q := by
      intro I2 B h2 hB2 hf2
      refine mj_b_iinc (hE := fe_122_34) (hv := rfl) (k := ?_)
      refine mj_b_goto (hE := fe_122_37) (k := ?_)
      refine (show mj_T pj_P 122 10 [.ref 87, .int q, .int (nI (20 + j) + -1)] [] (mz_SH L, I2, R) Q from ?_)
      have e : nI (20 + j) + -1 = nI (19 + j) := by
        rw [show 20 + j = 19 + j + 1 by omega, nI_succ, Int32.add_assoc, show (1 : Int32) + -1 = 0 from rfl, Int32.add_zero]
      rw [e]
      exact ih I2 B (by omega) h2 hB2 hf2
    rw [show 19 + (j + 1) = 20 + j by omega]
    refine mj_b_iload_n (hE := fe_122_10) (hv := rfl) (k := ?_)
    refine mj_b_bipush (hE := fe_122_11) (k := ?_)
    refine mj_b_if2 (hE := fe_122_13) (kt := fun g => ?_) (kf := fun g => ?_)
    · simp only [mj_cnd, decide_eq_true_eq] at g
      exact absurd g (by rw [show (20 : Int32) = nI 20 from rfl, nI_lt_iff (by omega) (by omega)]; omega)
    · refine mj_b_rload_n (hE := fe_122_16) (hv := rfl) (k := ?_)
      refine mj_b_getQ (hE := fe_122_17) (hM := by assumption) (hv := by assumption) (k := ?_)
      refine mj_b_iload_n (hE := fe_122_20) (hv := rfl) (k := ?_)
      refine mj_b_ialdN (hE := fe_122_21) (hM := h88) (ht := Or.inr rfl) (hj := rfl) (hc := by omega) (hn := by decide) (hv := hp) (k := ?_)
      refine mj_b_iload_n (hE := fe_122_22) (hv := rfl) (k := ?_)
      refine mj_b_callR (hE := fe_122_23) (hi := in_116) (h1 := g116 _ _ _) (hc := mj_cok_s rfl) (ha := rfl) (hr := rfl) ?_
      refine mj_b_if1 (hE := fe_122_26) (kt := fun k => ?_) (kf := fun k => ?_)
      · simp only [mj_cnd, decide_eq_true_eq, pz_0] at k
        obtain ⟨b1, b2⟩ := s2 k
        rw [b2] at h
        exact hnx I1 _ h b1 hf
      · simp only [mj_cnd, decide_eq_false_iff_not, pz_0, Bool.not_eq_false] at k
        obtain ⟨B', b1, b2⟩ := s1 k
        refine mj_b_rload_n (hE := fe_122_29) (hv := rfl) (k := ?_)
        refine mj_b_iload_n (hE := fe_122_30) (hv := rfl) (k := ?_)
        refine mj_b_call (hE := fe_122_31) (hi := in_117) (h1 := g117 (i := j) hm0 h (by rw [List.length_append, List.length_take]; omega)) (hc := mj_cok_v rfl rfl h87) (ha := rfl) (hr := rfl) ?_
        rintro v' M1 ⟨I2, hM, h2, hf2⟩
        cases hM
        dsimp only at h2
        rw [b2] at h2
        exact hnx I2 B' h2 b1 (hf.trans hf2)
/-- LockedTreeModel.empty -/
theorem g122 (q : Int32) (hm : mm_ok R) (h : md_rep 1 U I) : mj_G pj_P 122 [.ref 87, .int q] (mz_SH L, I, R) (fun r => ∃ I' B, r = (none, (mz_SH L, I', R)) ∧ md_rep 1 (B, U.2) I' ∧ B.Perm (U.1.filter (ar_out q)) ∧ fr_2 I I') := by
  have hm0 := hm
  obtain ⟨q0, q1, q2, q3, q4, q5, q6, q7, q8, q9, q10, q11, q16, q21⟩ := hm
  have h87 := sm_87 L
  have h98 := sm_98 L
  have a1 := h.2.1.1
  rw [Nat.mul_one] at a1
  refine mj_enter in_122 (L := [.ref 87, .int q, .retAddr 0]) rfl ?_
  refine mj_b_bipush (hE := fe_122_0) (k := ?_)
  refine mj_b_rload_n (hE := fe_122_2) (hv := rfl) (k := ?_)
  refine mj_b_getQ (hE := fe_122_3) (hM := by assumption) (hv := by assumption) (k := ?_)
  refine mj_b_iconst (hE := fe_122_6) (k := ?_)
  refine mj_b_ialdN (hE := fe_122_7) (c := 5) (hM := by assumption) (ht := Or.inr rfl) (hj := rfl) (hc := by decide) (hn := by decide) (hv := by first | assumption | rfl) (k := ?_)
  refine mj_b_iadd (hE := fe_122_8) (k := ?_)
  refine mj_b_istore_n (hE := fe_122_9) (hx := Nat.le_of_ble_eq_true rfl) (k := ?_)
  refine (show mj_T pj_P 122 10 [.ref 87, .int q, .int (nI 19 + nI U.1.length)] [] _ _ from ?_)
  rw [nI_add]
  refine l122 (I0 := I) (U := U) hm0 h.2.1.2 ?_ U.1.length I [] (Nat.le_refl _) (by rw [List.take_length, List.append_nil]; exact h) (by rw [List.drop_length]; exact List.Perm.refl _) fr_2.refl
  intro I1 B v2 h1 hB hf
  exact mj_b_retV (hE := fe_122_40) (hi := in_122) ⟨I1, B, rfl, h1, hB, hf⟩
/-- a request carried out; the list of what stays is not yet said -/
theorem mo_car' {st : Int32} (hr : m_rel n S H f rs hs) (hx : ar_nd Sx.1) (hxl : al_nd Sx.2.1) (hU : U.1.Perm Sx.1) (hUl : (m_fin U).2 = (a_fin Sx).2) {r : Option Value × mj_H} (h : cl_post L (rs, S.2) U f w st I R r) :
    ∃ I1 rs2, r = (some (.int (o_car S f w ms Sx st).1), (mz_SH L, I1, R)) ∧ fr_M I I1 ∧ m_all (rs2, (o_car S f w ms Sx st).2.1.2) [] (-1) (o_car S f w ms Sx st).2.2.1 [] I1 ∧ rs2.Perm (o_car S f w ms Sx st).2.1.1 ∧ ∀ j, I1 101 j = I 101 j := by
  have hk : md_dif (rs, S.2) (m_fin U) = a_chg (a_fin Sx) S := by
    rw [md_dif_perm (T := (rs, S.2)) (S := S) (U := m_fin U) (V := a_fin Sx) hr.1 rfl hU hUl hx]
    exact md_dif_eq hx hr.nd (List.Pairwise.sublist List.filter_sublist hxl) hr.ndL
  obtain ⟨I1, h1, h2, h3, h4⟩ := h
  rw [hk] at h1 h3
  refine ⟨I1, if a_cmt f (a_chg (a_fin Sx) S) = true then U.1 else rs, h1, h2, ?_, ?_, h4⟩
  · unfold o_car
    have e : (if a_cmt f (a_chg (a_fin Sx) S) = true then m_fin U else (rs, S.2)) = (if a_cmt f (a_chg (a_fin Sx) S) = true then U.1 else rs, (if a_cmt f (a_chg (a_fin Sx) S) = true then a_fin Sx else S).2) := by
      split
      · rw [← hUl]; rfl
      · rfl
    rw [e] at h3
    exact h3
  · unfold o_car
    split
    · exact hU
    · exact hr.1
theorem m_env.cli (h : m_env S H f w rs ts I I1) (hm : mm_ok R) (q : Int32) : mj_G pj_P 114 [.ref 87, .int q] (mz_SH L, I1, R) (fun r => r = (some (.int (pz (a_clg S.2.1 (a_sub H.1) q))), (mz_SH L, I1, R))) := by
  have := g114' (L := L) q hm h.2.1.1 h.2.2.2.2.1
  rwa [h.2.2.2.2.2] at this
theorem m_env.rem (h : m_env S H f w rs ts I I1) (hm : mm_ok R) (hr : m_rel n S H f rs hs) (x p : Int32) : mj_G pj_P 115 [.ref 87, .int x, .int p] (mz_SH L, I1, R) (fun s => s = (some (.int (pz ((!decide (x = p) && a_clg S.2.1 (a_sub H.1) x) || S.1.any (fun r => pf_below r.1 x && a_clg S.2.1 (a_sub H.1) r.1)))), (mz_SH L, I1, R))) := by
  have := g115' (L := L) x p hm h.2.1.1 h.2.2.2.2.1
  dsimp only at this
  rwa [h.2.2.2.2.2, hr.1.any_eq] at this
/-- after open, with the list of what stays written down -/
theorem m_env.st {j : Nat} {v : Int32} (h : m_env S H f w rs ts I I1) : m_env S H f w rs ts I (mj_u I1 101 j v) := by
  obtain ⟨a, ⟨b1, ⟨b2, b3⟩, b4, b5, b6, ⟨b7, b8⟩, b9⟩, c, d, ⟨⟨e1, e2⟩, e3⟩, g⟩ := h
  refine ⟨a.trans (fr_M.u (by omega) (by omega)), ⟨b1.eq (fun x k _ _ => mj_u_na _ _ _ _ (by omega)), ⟨?_, b3⟩, by simp, ?_, ?_, ⟨?_, b8⟩, by simp⟩, ?_, d.eq (fun x k _ _ => mj_u_na _ _ _ _ (by omega)), ⟨⟨?_, e2⟩, fun i t hi => by rw [mj_u_na _ _ _ _ (by omega)]; exact e3 i t hi⟩, g⟩ <;> rw [mj_u_na _ _ _ _ (by omega)] <;> assumption
def dm_X (S : ty_st) (sub : Int32 → Bool) (p : Int32) (x : Nat) : Bool := ar_has S.1 (nI x) && (pf_below (nI x) p && a_clg S.2.1 sub (nI x))
set_option maxHeartbeats 4000000 in
/-- what stays is written down -/
theorem l113a {p : Int32} {v2 v6 : Value} (hm : mm_ok R) (hr : m_rel n S H f rs hs) (hl12 : (a_mul S (a_sub H.1) p).length ≤ 12)
    (hk : ∀ I2 v5, m_env S H f w rs ts I I2 → (∀ i v, (a_mul S (a_sub H.1) p)[i]? = some v → I2 101 i = v) → mj_T pj_P 113 128 [.ref 87, .int p, v2, .int (pz false), .int (nI (a_mul S (a_sub H.1) p).length), v5, v6] [] (mz_SH L, I2, R) Q) :
    ∀ (k x : Nat) (I2 : Nat → Nat → Int32), x + k = 4096 → 1 ≤ x → m_env S H f w rs ts I I2 → (∀ i v, (((List.range' 1 (x - 1)).filter (dm_X S (a_sub H.1) p)).map nI)[i]? = some v → I2 101 i = v) → mj_T pj_P 113 70 [.ref 87, .int p, v2, .int (pz false), .int (nI ((List.range' 1 (x - 1)).filter (dm_X S (a_sub H.1) p)).length), .int (nI x), v6] [] (mz_SH L, I2, R) Q := by
  have hm0 := hm
  obtain ⟨q0, q1, q2, q3, q4, q5, q6, q7, q8, q9, q10, q11, q16, q21⟩ := hm
  have h87 := sm_87 L
  have h101 := sm_101 L
  have hall := sc_mul (S := S) (sub := a_sub H.1) (p := p) hr.2.1.1.1 (fun r h => (hr.2.1.1.2.2.1 r h).1) hr.2.1.1.2.2.2
  have hall2 : ((List.range' 1 4095).filter (dm_X S (a_sub H.1) p)).map nI = a_mul S (a_sub H.1) p := hall
  intro k
  induction k with
  | zero =>
    intro x I2 hx hx1 he hst
    have hx0 : x = 4096 := by omega
    subst hx0
    rw [show 4096 - 1 = 4095 from rfl] at hst ⊢
    rw [hall2] at hst
    have hlen : ((List.range' 1 4095).filter (dm_X S (a_sub H.1) p)).length = (a_mul S (a_sub H.1) p).length := by rw [← hall2, List.length_map]
    rw [hlen]
    refine mj_b_iload (hE := fe_113_70) (hv := rfl) (k := ?_)
    refine mj_b_sipush (hE := fe_113_72) (k := ?_)
    refine mj_b_if2 (hE := fe_113_75) (kt := fun g => ?_) (kf := fun g => ?_)
    · exact hk I2 _ he hst
    · exact absurd g (by decide +kernel)
  | succ k ih =>
    intro x I2 hx hx1 he hst
    have hrg : List.range' 1 (x + 1 - 1) = List.range' 1 (x - 1) ++ [x] := by
      rw [show x + 1 - 1 = (x - 1) + 1 by omega, List.range'_concat]
      congr 2
      omega
    have hsub : ((List.range' 1 (x + 1 - 1)).filter (dm_X S (a_sub H.1) p)).length ≤ 12 := by
      have e1 : (List.range' 1 4095) = List.range' 1 (x + 1 - 1) ++ List.range' (x + 1) (4095 - x) := by
        have := List.range'_append_1 (s := 1) (m := x + 1 - 1) (n := 4095 - x)
        rw [show 1 + (x + 1 - 1) = x + 1 by omega, show x + 1 - 1 + (4095 - x) = 4095 by omega] at this
        exact this.symm
      have e2 : ((List.range' 1 4095).filter (dm_X S (a_sub H.1) p)).length ≤ 12 := by
        have := congrArg List.length hall2
        rw [List.length_map] at this
        omega
      rw [e1, List.filter_append, List.length_append] at e2
      omega
    have hnx : ∀ (I3 : Nat → Nat → Int32) (c : Nat), c = ((List.range' 1 (x + 1 - 1)).filter (dm_X S (a_sub H.1) p)).length → m_env S H f w rs ts I I3 → (∀ i v, (((List.range' 1 (x + 1 - 1)).filter (dm_X S (a_sub H.1) p)).map nI)[i]? = some v → I3 101 i = v) → mj_T pj_P 113 122 [.ref 87, .int p, v2, .int (pz false), .int (nI c), .int (nI x), v6] [] (mz_SH L, I3, R) Q := by
      intro I3 c hc he3 hst3
      refine mj_b_iinc (hE := fe_113_122) (hv := rfl) (k := ?_)
      refine mj_b_goto (hE := fe_113_125) (k := ?_)
      refine (show mj_T pj_P 113 70 [.ref 87, .int p, v2, .int (pz false), .int (nI c), .int (nI x + 1), v6] [] (mz_SH L, I3, R) Q from ?_)
      rw [← nI_succ, hc]
      exact ih (x + 1) I3 (by omega) (by omega) he3 hst3
    have hno : dm_X S (a_sub H.1) p x = false → mj_T pj_P 113 122 [.ref 87, .int p, v2, .int (pz false), .int (nI ((List.range' 1 (x - 1)).filter (dm_X S (a_sub H.1) p)).length), .int (nI x), v6] [] (mz_SH L, I2, R) Q := by
      intro hx2
      refine hnx I2 _ ?_ he ?_
      · rw [hrg, List.filter_append]; simp [hx2]
      · rw [hrg, List.filter_append]; simpa [hx2] using hst
    have hneg := hr.neg (nI x)
    refine mj_b_iload (hE := fe_113_70) (hv := rfl) (k := ?_)
    refine mj_b_sipush (hE := fe_113_72) (k := ?_)
    refine mj_b_if2 (hE := fe_113_75) (kt := fun g => ?_) (kf := fun g => ?_)
    · simp only [mj_cnd, decide_eq_true_eq] at g
      exact absurd g (by rw [show (4095 : Int32) = nI 4095 from rfl, nI_lt_iff (by omega) (by omega)]; omega)
    · refine mj_b_iload_n (hE := fe_113_78) (hv := rfl) (k := ?_)
      refine mj_b_if1 (hE := fe_113_79) (kt := fun g => absurd g (by decide)) (kf := fun g => ?_)
      refine mj_b_iload (hE := fe_113_82) (hv := rfl) (k := ?_)
      refine mj_b_iload_n (hE := fe_113_84) (hv := rfl) (k := ?_)
      refine mj_b_callR (hE := fe_113_85) (hi := in_100) (h1 := g100 _ _ _) (hc := mj_cok_s rfl) (ha := rfl) (hr := rfl) ?_
      refine mj_b_if1 (hE := fe_113_88) (kt := fun k1 => ?_) (kf := fun k1 => ?_)
      · simp only [mj_cnd, decide_eq_true_eq, pz_0] at k1
        exact hno (by simp [dm_X, k1])
      · simp only [mj_cnd, decide_eq_false_iff_not, pz_0, Bool.not_eq_false] at k1
        refine mj_b_rload_n (hE := fe_113_91) (hv := rfl) (k := ?_)
        refine mj_b_iload (hE := fe_113_92) (hv := rfl) (k := ?_)
        refine mj_b_iconst (hE := fe_113_94) (k := ?_)
        refine mj_b_callR (hE := fe_113_95) (hi := in_101) (h1 := he.fnd hm0 hr (nI x)) (hc := mj_cok_v rfl rfl h87) (ha := rfl) (hr := rfl) ?_
        refine mj_b_if1 (hE := fe_113_98) (kt := fun k2 => ?_) (kf := fun k2 => ?_)
        · simp only [mj_cnd, decide_eq_true_eq] at k2
          rw [hneg] at k2
          exact hno (by simp [dm_X, k2])
        · simp only [mj_cnd, decide_eq_false_iff_not] at k2
          rw [hneg, Bool.not_eq_false] at k2
          refine mj_b_rload_n (hE := fe_113_101) (hv := rfl) (k := ?_)
          refine mj_b_iload (hE := fe_113_102) (hv := rfl) (k := ?_)
          refine mj_b_callR (hE := fe_113_104) (hi := in_114) (h1 := he.cli hm0 (nI x)) (hc := mj_cok_v rfl rfl h87) (ha := rfl) (hr := rfl) ?_
          refine mj_b_if1 (hE := fe_113_107) (kt := fun k3 => ?_) (kf := fun k3 => ?_)
          · simp only [mj_cnd, decide_eq_true_eq, pz_0] at k3
            exact hno (by simp [dm_X, k3])
          · simp only [mj_cnd, decide_eq_false_iff_not, pz_0, Bool.not_eq_false] at k3
            have hyes : dm_X S (a_sub H.1) p x = true := by simp [dm_X, k1, k2, k3]
            have hlen2 : ((List.range' 1 (x + 1 - 1)).filter (dm_X S (a_sub H.1) p)).length = ((List.range' 1 (x - 1)).filter (dm_X S (a_sub H.1) p)).length + 1 := by
              rw [hrg, List.filter_append, List.length_append]
              simp [hyes]
            refine mj_b_rload_n (hE := fe_113_110) (hv := rfl) (k := ?_)
            refine mj_b_getQ (hE := fe_113_111) (hM := by assumption) (hv := by assumption) (k := ?_)
            refine mj_b_iload (hE := fe_113_114) (hv := rfl) (k := ?_)
            refine mj_b_iload (hE := fe_113_116) (hv := rfl) (k := ?_)
            refine mj_b_iastN (hE := fe_113_118) (hM := h101) (hj := rfl) (hc := by omega) (hn := by decide) (k := ?_)
            refine mj_b_iinc (hE := fe_113_119) (hv := rfl) (k := ?_)
            refine (show mj_T pj_P 113 122 [.ref 87, .int p, v2, .int (pz false), .int (nI ((List.range' 1 (x - 1)).filter (dm_X S (a_sub H.1) p)).length + 1), .int (nI x), v6] [] (mz_SH L, mj_u I2 101 ((List.range' 1 (x - 1)).filter (dm_X S (a_sub H.1) p)).length (nI x), R) Q from ?_)
            rw [← nI_succ]
            refine hnx _ _ hlen2.symm he.st ?_
            intro i v hi
            rw [hrg, List.filter_append, List.map_append] at hi
            rw [List.getElem?_append] at hi
            split at hi
            · rename_i hlt
              rw [List.length_map] at hlt
              have : ¬ (101 = 101 ∧ i = ((List.range' 1 (x - 1)).filter (dm_X S (a_sub H.1) p)).length) := by omega
              rw [mj_u, if_neg this]
              exact hst i v hi
            · rename_i hlt
              have hl2 := (List.getElem?_eq_some_iff.mp hi).1
              rw [List.length_map] at hlt
              simp only [List.filter_cons, hyes, if_true, List.filter_nil, List.map_cons, List.map_nil, List.length_cons, List.length_nil, List.length_map] at hl2
              have e : i = ((List.range' 1 (x - 1)).filter (dm_X S (a_sub H.1) p)).length := by omega
              subst e
              simp only [List.length_map, Nat.sub_self, List.filter_cons, hyes, if_true, List.filter_nil, List.map_cons, List.map_nil, List.getElem?_cons_zero, Option.some.injEq] at hi
              simp [mj_u, hi]
end NH
