/-! ===== the model: the header is read: a number, a condition ===== -/
/-- the model stands at the place a of the characters hs; what it has found so far -/
def hm_rep (hs : List Int32) (a : Nat) (fm hd : Bool) (ts : List Int32) (I : Nat → Nat → Int32) : Prop :=
  (I 87 12 = nI hs.length ∧ hs.length ≤ 24) ∧ (∀ i c, hs[i]? = some c → I 99 i = c) ∧ (I 87 13 = nI a ∧ a < 100) ∧ I 87 14 = pz fm ∧ I 87 15 = pz hd ∧ sb_rep ts I
/-- nothing but what reading changes -/
def fr_7 (I I' : Nat → Nat → Int32) : Prop := ∀ x j, ¬ (x = 87 ∧ 13 ≤ j ∧ j ≤ 17) → ¬ x = 100 → I' x j = I x j
theorem fr_7.refl {I : Nat → Nat → Int32} : fr_7 I I := fun _ _ _ _ => rfl
theorem fr_7.trans {I J K : Nat → Nat → Int32} (h : fr_7 I J) (h2 : fr_7 J K) : fr_7 I K := fun x j a b => (h2 x j a b).trans (h x j a b)
theorem fr_7.u {I : Nat → Nat → Int32} {j : Nat} {v : Int32} (h1 : 13 ≤ j) (h2 : j ≤ 17) : fr_7 I (mj_u I 87 j v) := fun x k a b => by
  have : ¬ (x = 87 ∧ k = j) := by omega
  simp only [mj_u, this, if_false]
theorem fr_7.u2 {I : Nat → Nat → Int32} {j : Nat} {v : Int32} : fr_7 I (mj_u I 100 j v) := fun x k a b => by
  have : ¬ (x = 100 ∧ k = j) := by omega
  simp only [mj_u, this, if_false]
section MH
variable {L s a : Nat} {T : ty_st} {ts hs : List Int32} {fm hd : Bool} {I I' I0 : Nat → Nat → Int32} {R : Nat → Nat → Option Nat} {Q : Option Value × mj_H → Prop}
theorem md_rep.f7 (h : md_rep s T I) (hf : fr_7 I I') : md_rep s T I' := h.eq (fun x j h1 h2 => hf x j (by omega) (by omega))
theorem hm_rep.at' (h : hm_rep hs a fm hd ts I) {n : Nat} (hn : n < 100) : hm_rep hs n fm hd ts (mj_u I 87 13 (nI n)) := by
  obtain ⟨⟨a1, a2⟩, b, ⟨c1, c2⟩, d1, d2, ⟨e1, e2⟩, e3⟩ := h
  exact ⟨⟨by simp [mj_u, a1], a2⟩, fun i c hc => by rw [mj_u_na _ _ _ _ (by omega)]; exact b i c hc, ⟨by simp [mj_u], hn⟩, by simp [mj_u, d1], by simp [mj_u, d2], ⟨by simp [mj_u, e1], e2⟩, fun i t ht => by rw [mj_u_na _ _ _ _ (by omega)]; exact e3 i t ht⟩
theorem hm_rep.fm' (h : hm_rep hs a fm hd ts I) (b' : Bool) : hm_rep hs a b' hd ts (mj_u I 87 14 (pz b')) := by
  obtain ⟨⟨a1, a2⟩, b, ⟨c1, c2⟩, d1, d2, ⟨e1, e2⟩, e3⟩ := h
  exact ⟨⟨by simp [mj_u, a1], a2⟩, fun i c hc => by rw [mj_u_na _ _ _ _ (by omega)]; exact b i c hc, ⟨by simp [mj_u, c1], c2⟩, by simp [mj_u], by simp [mj_u, d2], ⟨by simp [mj_u, e1], e2⟩, fun i t ht => by rw [mj_u_na _ _ _ _ (by omega)]; exact e3 i t ht⟩
theorem hm_rep.hd' (h : hm_rep hs a fm hd ts I) (b' : Bool) : hm_rep hs a fm b' ts (mj_u I 87 15 (pz b')) := by
  obtain ⟨⟨a1, a2⟩, b, ⟨c1, c2⟩, d1, d2, ⟨e1, e2⟩, e3⟩ := h
  exact ⟨⟨by simp [mj_u, a1], a2⟩, fun i c hc => by rw [mj_u_na _ _ _ _ (by omega)]; exact b i c hc, ⟨by simp [mj_u, c1], c2⟩, by simp [mj_u, d1], by simp [mj_u], ⟨by simp [mj_u, e1], e2⟩, fun i t ht => by rw [mj_u_na _ _ _ _ (by omega)]; exact e3 i t ht⟩
theorem hm_rep.sub' (h : hm_rep hs a fm hd ts I) (hl : ts.length < 12) (v : Int32) : hm_rep hs a fm hd (ts ++ [v]) (mj_u (mj_u I 100 ts.length v) 87 17 (nI ts.length + 1)) := by
  obtain ⟨⟨a1, a2⟩, b, ⟨c1, c2⟩, d1, d2, ⟨e1, e2⟩, e3⟩ := h
  refine ⟨⟨by simp [mj_u, a1], a2⟩, fun i c hc => by rw [mj_u_na _ _ _ _ (by omega), mj_u_na _ _ _ _ (by omega)]; exact b i c hc, ⟨by simp [mj_u, c1], c2⟩, by simp [mj_u, d1], by simp [mj_u, d2], ⟨by simp [mj_u, nI_succ], by simp; omega⟩, ?_⟩
  intro i t ht
  rw [mj_u_na _ _ _ _ (by omega)]
  rw [List.getElem?_append] at ht
  split at ht
  · rename_i hlt
    have : ¬ i = ts.length := by omega
    simp only [mj_u, this, and_false, if_false]
    exact e3 i t ht
  · have hl2 := (List.getElem?_eq_some_iff.mp ht).1
    simp only [List.length_cons, List.length_nil] at hl2
    have e : i = ts.length := by omega
    subst e
    simp only [Nat.sub_self, List.getElem?_cons_zero, Option.some.injEq] at ht
    simp [mj_u, ht]
/-- sees -/
theorem g95' (c : Int32) (hm : mm_ok R) (h : hm_rep hs a fm hd ts I) : mj_G pj_P 95 [.ref 87, .int c] (mz_SH L, I, R) (fun s => s = (some (.int (pz (decide (hs[a]? = some c)))), (mz_SH L, I, R))) := by
  obtain ⟨⟨a1, a2⟩, b, ⟨c1, c2⟩, -⟩ := h
  have := g95 (L := L) c hm c1 c2 a1 a2
  have e : mm_see I a hs.length c = decide (hs[a]? = some c) := by
    unfold mm_see
    rcases Nat.lt_or_ge a hs.length with hlt | hge
    · have hg : hs[a]? = some hs[a] := List.getElem?_eq_getElem hlt
      have h1 : ¬ (nI hs.length ≤ nI a) := by rw [nI_le_iff (by omega) (by omega)]; omega
      rw [b a _ hg, hg]
      simp [h1]
    · have h1 : nI hs.length ≤ nI a := by rw [nI_le_iff (by omega) (by omega)]; omega
      rw [List.getElem?_eq_none hge]
      simp [h1]
  rwa [e] at this
set_option maxHeartbeats 2000000 in
theorem l96 (hm : mm_ok R) {V : Int32} {D N : Nat} (hN : N < 100)
    (hk : ∀ I1, hm_rep hs N fm hd ts I1 → fr_7 I0 I1 → mj_T pj_P 96 86 [.ref 87, .int V, .int (nI D)] [] (mz_SH L, I1, R) Q) :
    ∀ (cs : List Int32) (a : Nat) (I1 : Nat → Nat → Int32) (v : Int32) (d : Nat), hs.drop a = cs → hm_rep hs a fm hd ts I1 → fr_7 I0 I1 → d ≤ a → rn_go cs v d = (V, D) → a + (D - d) = N → mj_T pj_P 96 4 [.ref 87, .int v, .int (nI d)] [] (mz_SH L, I1, R) Q := by
  have hm0 := hm
  obtain ⟨q0, q1, q2, q3, q4, q5, q6, q7, q8, q9, q10, q11, q16, q21⟩ := hm
  have h87 := sm_87 L
  have h99 := sm_99 L
  intro cs
  induction cs with
  | nil =>
    intro a I1 v d hd0 hr hf hd100 hrn hN2
    have hr0 := hr
    obtain ⟨⟨a1, a2⟩, b, ⟨c1, c2⟩, -⟩ := hr
    have hge : hs.length ≤ a := by
      rcases Nat.lt_or_ge a hs.length with hlt | hge
      · rw [List.drop_eq_getElem_cons hlt] at hd0; cases hd0
      · exact hge
    simp only [rn_go, Prod.mk.injEq] at hrn
    obtain ⟨rfl, rfl⟩ := hrn
    have hNa : a = N := by omega
    subst hNa
    refine mj_b_rload_n (hE := fe_96_4) (hv := rfl) (k := ?_)
    refine mj_b_getV (hE := fe_96_5) (hM := by assumption) (hv := by assumption) (k := ?_)
    refine mj_b_rload_n (hE := fe_96_8) (hv := rfl) (k := ?_)
    refine mj_b_getV (hE := fe_96_9) (hM := by assumption) (hv := by assumption) (k := ?_)
    refine mj_b_if2 (hE := fe_96_12) (kt := fun g => ?_) (kf := fun g => ?_)
    · exact hk _ hr0 hf
    · simp only [mj_cnd, decide_eq_false_iff_not] at g
      exact absurd (by rw [nI_le_iff (by omega) (by omega)]; omega) g
  | cons c cs ih =>
    intro a I1 v d hd0 hr hf hd100 hrn hN2
    have hr0 := hr
    obtain ⟨⟨a1, a2⟩, b, ⟨c1, c2⟩, -⟩ := hr
    have hlt : a < hs.length := by
      rcases Nat.lt_or_ge a hs.length with hlt | hge
      · exact hlt
      · rw [List.drop_eq_nil_of_le hge] at hd0; cases hd0
    have hdr := List.drop_eq_getElem_cons hlt
    rw [hd0] at hdr
    simp only [List.cons.injEq] at hdr
    obtain ⟨hc, hcs⟩ := hdr
    have hg : hs[a]? = some c := by rw [hc]; exact List.getElem?_eq_getElem hlt
    have hI := b a c hg
    have stop : pf_dig c = false → mj_T pj_P 96 86 [.ref 87, .int v, .int (nI d)] [] (mz_SH L, I1, R) Q := by
      intro hdg
      simp only [rn_go, hdg, Bool.false_eq_true, if_false, Prod.mk.injEq] at hrn
      obtain ⟨rfl, rfl⟩ := hrn
      have hNa : a = N := by omega
      subst hNa
      exact hk _ hr0 hf
    have go : pf_dig c = true → ∀ v', v' = (if d < 4 then 10 * v + c - 48 else v) → ∀ u, mj_T pj_P 96 69 [.ref 87, u, .int (nI d)] [.int v'] (mz_SH L, I1, R) Q := by
      intro hdg v' hv' u
      simp only [rn_go, hdg, if_true] at hrn
      rw [← hv'] at hrn
      have hge := rn_ge cs v' (d + 1)
      rw [hrn] at hge
      have hl24 : cs.length ≤ 24 := by rw [hcs, List.length_drop]; omega
      dsimp only at hge
      refine mj_b_istore_n (hE := fe_96_69) (hx := Nat.le_of_ble_eq_true rfl) (k := ?_)
      refine mj_b_iinc (hE := fe_96_70) (hv := rfl) (k := ?_)
      refine mj_b_rload_n (hE := fe_96_73) (hv := rfl) (k := ?_)
      refine mj_b_dup (hE := fe_96_74) (hv := rfl) (k := ?_)
      refine mj_b_getV (hE := fe_96_75) (hM := by assumption) (hv := by assumption) (k := ?_)
      refine mj_b_iconst (hE := fe_96_78) (k := ?_)
      refine mj_b_iadd (hE := fe_96_79) (k := ?_)
      refine mj_b_putI (hE := fe_96_80) (hw := Or.inl rfl) (hM := by assumption) (k := ?_)
      refine mj_b_goto (hE := fe_96_83) (k := ?_)
      refine (show mj_T pj_P 96 4 [.ref 87, .int v', .int (nI d + 1)] [] (mz_SH L, mj_u I1 87 13 (nI a + 1), R) Q from ?_)
      rw [← nI_succ, ← nI_succ]
      exact ih (a + 1) _ v' (d + 1) hcs.symm (hr0.at' (by omega)) (hf.trans (fr_7.u (by omega) (by omega))) (by omega) hrn (by omega)
    refine mj_b_rload_n (hE := fe_96_4) (hv := rfl) (k := ?_)
    refine mj_b_getV (hE := fe_96_5) (hM := by assumption) (hv := by assumption) (k := ?_)
    refine mj_b_rload_n (hE := fe_96_8) (hv := rfl) (k := ?_)
    refine mj_b_getV (hE := fe_96_9) (hM := by assumption) (hv := by assumption) (k := ?_)
    refine mj_b_if2 (hE := fe_96_12) (kt := fun g => ?_) (kf := fun g => ?_)
    · simp only [mj_cnd, decide_eq_true_eq] at g
      exact absurd g (by rw [nI_le_iff (by omega) (by omega)]; omega)
    · refine mj_b_rload_n (hE := fe_96_15) (hv := rfl) (k := ?_)
      refine mj_b_getQ (hE := fe_96_16) (hM := by assumption) (hv := by assumption) (k := ?_)
      refine mj_b_rload_n (hE := fe_96_19) (hv := rfl) (k := ?_)
      refine mj_b_getV (hE := fe_96_20) (hM := by assumption) (hv := by assumption) (k := ?_)
      refine mj_b_caldN (hE := fe_96_23) (hM := h99) (hj := rfl) (hc := by omega) (hn := by decide) (hv := hI) (k := ?_)
      refine mj_b_bipush (hE := fe_96_24) (k := ?_)
      refine mj_b_if2 (hE := fe_96_26) (kt := fun g2 => ?_) (kf := fun g2 => ?_)
      · simp only [mj_cnd, decide_eq_true_eq] at g2
        exact stop (by simp [pf_dig, pf_from, g2])
      · simp only [mj_cnd, decide_eq_false_iff_not] at g2
        refine mj_b_rload_n (hE := fe_96_29) (hv := rfl) (k := ?_)
        refine mj_b_getQ (hE := fe_96_30) (hM := by assumption) (hv := by assumption) (k := ?_)
        refine mj_b_rload_n (hE := fe_96_33) (hv := rfl) (k := ?_)
        refine mj_b_getV (hE := fe_96_34) (hM := by assumption) (hv := by assumption) (k := ?_)
        refine mj_b_caldN (hE := fe_96_37) (hM := h99) (hj := rfl) (hc := by omega) (hn := by decide) (hv := hI) (k := ?_)
        refine mj_b_bipush (hE := fe_96_38) (k := ?_)
        refine mj_b_if2 (hE := fe_96_40) (kt := fun g3 => ?_) (kf := fun g3 => ?_)
        · simp only [mj_cnd, Bool.not_eq_true', decide_eq_false_iff_not, Int32.not_le] at g3
          exact stop (by simp [pf_dig, pf_from, g3])
        · simp only [mj_cnd, Bool.not_eq_false', decide_eq_true_eq] at g3
          have hdg : pf_dig c = true := by simp [pf_dig, pf_from, g2, Int32.not_lt, g3]
          refine mj_b_iload_n (hE := fe_96_43) (hv := rfl) (k := ?_)
          refine mj_b_iconst (hE := fe_96_44) (k := ?_)
          refine mj_b_if2 (hE := fe_96_45) (kt := fun g4 => ?_) (kf := fun g4 => ?_)
          · simp only [mj_cnd, decide_eq_true_eq] at g4
            refine mj_b_iload_n (hE := fe_96_68) (hv := rfl) (k := ?_)
            exact go hdg v (by rw [if_neg]; rw [show (4 : Int32) = nI 4 from rfl, nI_le_iff (by omega) (by omega)] at g4; omega) _
          · simp only [mj_cnd, decide_eq_false_iff_not] at g4
            refine mj_b_bipush (hE := fe_96_48) (k := ?_)
            refine mj_b_iload_n (hE := fe_96_50) (hv := rfl) (k := ?_)
            refine mj_b_imul (hE := fe_96_51) (k := ?_)
            refine mj_b_rload_n (hE := fe_96_52) (hv := rfl) (k := ?_)
            refine mj_b_getQ (hE := fe_96_53) (hM := by assumption) (hv := by assumption) (k := ?_)
            refine mj_b_rload_n (hE := fe_96_56) (hv := rfl) (k := ?_)
            refine mj_b_getV (hE := fe_96_57) (hM := by assumption) (hv := by assumption) (k := ?_)
            refine mj_b_caldN (hE := fe_96_60) (hM := h99) (hj := rfl) (hc := by omega) (hn := by decide) (hv := hI) (k := ?_)
            refine mj_b_iadd (hE := fe_96_61) (k := ?_)
            refine mj_b_bipush (hE := fe_96_62) (k := ?_)
            refine mj_b_isub (hE := fe_96_64) (k := ?_)
            refine mj_b_goto (hE := fe_96_65) (k := ?_)
            exact go hdg _ (by rw [if_pos]; rw [show (4 : Int32) = nI 4 from rfl, nI_le_iff (by omega) (by omega)] at g4; omega) _
/-- LockedTreeModel.readNum -/
theorem g96 (hm : mm_ok R) (h : hm_rep hs a fm hd ts I) (ha : a ≤ 60) :
    mj_G pj_P 96 [.ref 87] (mz_SH L, I, R) (fun r => ∃ I', r = (some (.int (rn_go (hs.drop a) 0 0).1), (mz_SH L, I', R)) ∧ hm_rep hs (a + (rn_go (hs.drop a) 0 0).2) (fm && decide (1 ≤ (rn_go (hs.drop a) 0 0).2 ∧ (rn_go (hs.drop a) 0 0).2 ≤ 4)) hd ts I' ∧ fr_7 I I') := by
  have h87 := sm_87 L
  have hge := rn_ge (hs.drop a) 0 0
  rw [List.length_drop] at hge
  have h24 := h.1.2
  generalize hrn : rn_go (hs.drop a) 0 0 = vd at hge ⊢
  obtain ⟨V, D⟩ := vd
  dsimp only at hge ⊢
  refine mj_enter in_96 (L := [.ref 87, .retAddr 0, .retAddr 0]) rfl ?_
  refine mj_b_iconst (hE := fe_96_0) (k := ?_)
  refine mj_b_istore_n (hE := fe_96_1) (hx := Nat.le_of_ble_eq_true rfl) (k := ?_)
  refine mj_b_iconst (hE := fe_96_2) (k := ?_)
  refine mj_b_istore_n (hE := fe_96_3) (hx := Nat.le_of_ble_eq_true rfl) (k := ?_)
  refine l96 (I0 := I) (V := V) (D := D) (N := a + D) hm (by omega) ?_ (hs.drop a) a I 0 0 rfl h fr_7.refl (by omega) hrn (by omega)
  intro I1 h1 hf
  have hfm := h1.2.2.2.1
  have e109 : ∀ t : Bool, t = (fm && decide (1 ≤ D ∧ D ≤ 4)) → mj_T pj_P 96 109 [.ref 87, .int V, .int (nI D)] [.int (pz t), .ref 87] (mz_SH L, I1, R) (fun r => ∃ I', r = (some (.int V), (mz_SH L, I', R)) ∧ hm_rep hs (a + D) (fm && decide (1 ≤ D ∧ D ≤ 4)) hd ts I' ∧ fr_7 I I') := by
    intro t ht
    refine mj_b_putI (hE := fe_96_109) (hw := Or.inr ⟨rfl, pz_01 _⟩) (hM := h87) (k := ?_)
    refine mj_b_iload_n (hE := fe_96_112) (hv := rfl) (k := ?_)
    refine mj_b_retI (hE := fe_96_113) (hi := in_96) ⟨_, rfl, ?_, hf.trans (fr_7.u (by omega) (by omega))⟩
    rw [← ht]
    exact h1.fm' t
  refine mj_b_rload_n (hE := fe_96_86) (hv := rfl) (k := ?_)
  refine mj_b_rload_n (hE := fe_96_87) (hv := rfl) (k := ?_)
  refine mj_b_getV (hE := fe_96_88) (hM := by assumption) (hv := by assumption) (k := ?_)
  refine mj_b_if1 (hE := fe_96_91) (kt := fun g => ?_) (kf := fun g => ?_)
  · simp only [mj_cnd, decide_eq_true_eq, pz_0] at g
    refine mj_b_iconst (hE := fe_96_108) (k := ?_)
    exact e109 false (by simp [g])
  · simp only [mj_cnd, decide_eq_false_iff_not, pz_0, Bool.not_eq_false] at g
    refine mj_b_iload_n (hE := fe_96_94) (hv := rfl) (k := ?_)
    refine mj_b_iconst (hE := fe_96_95) (k := ?_)
    refine mj_b_if2 (hE := fe_96_96) (kt := fun g2 => ?_) (kf := fun g2 => ?_)
    · simp only [mj_cnd, decide_eq_true_eq] at g2
      rw [show (1 : Int32) = nI 1 from rfl, nI_lt_iff (by omega) (by omega)] at g2
      refine mj_b_iconst (hE := fe_96_108) (k := ?_)
      exact e109 false (by simp [show ¬ 1 ≤ D from by omega])
    · simp only [mj_cnd, decide_eq_false_iff_not] at g2
      rw [show (1 : Int32) = nI 1 from rfl, nI_lt_iff (by omega) (by omega)] at g2
      refine mj_b_iload_n (hE := fe_96_99) (hv := rfl) (k := ?_)
      refine mj_b_iconst (hE := fe_96_100) (k := ?_)
      refine mj_b_if2 (hE := fe_96_101) (kt := fun g3 => ?_) (kf := fun g3 => ?_)
      · simp only [mj_cnd, decide_eq_true_eq] at g3
        rw [show (4 : Int32) = nI 4 from rfl, nI_lt_iff (by omega) (by omega)] at g3
        refine mj_b_iconst (hE := fe_96_108) (k := ?_)
        exact e109 false (by simp [show ¬ D ≤ 4 from by omega])
      · simp only [mj_cnd, decide_eq_false_iff_not] at g3
        rw [show (4 : Int32) = nI 4 from rfl, nI_lt_iff (by omega) (by omega)] at g3
        refine mj_b_iconst (hE := fe_96_104) (k := ?_)
        refine mj_b_goto (hE := fe_96_105) (k := ?_)
        exact e109 true (by simp [g, show D ≤ 4 from by omega, show 1 ≤ D from by omega])
end MH
