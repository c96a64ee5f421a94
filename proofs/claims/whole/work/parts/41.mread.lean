/-! ===== the model: the header is read whole ===== -/
section MW
variable {L a : Nat} {T : ty_st} {ts hs : List Int32} {fm hd gr : Bool} {I I' I0 : Nat → Nat → Int32} {R : Nat → Nat → Option Nat} {Q : Option Value × mj_H → Prop} {z : Int32 × Int32} {p : Int32}
/-- what reading the header leaves -/
def rh_post (L : Nat) (z : Int32 × Int32) (hs : List Int32) (T : ty_st) (p : Int32) (I0 : Nat → Nat → Int32) (R : Nat → Nat → Option Nat) (r : Option Value × mj_H) : Prop :=
  ∃ I', r = (none, (mz_SH L, I', R)) ∧ fr_7 I0 I' ∧ I' 87 14 = pz (hd_gd z hs) ∧ (hd_gd z hs = true → I' 87 15 = pz (a_hol (a_cnd T.1 T.2.1 p) (hd_at z hs hs.length).1 true 1) ∧ sb_rep (tsof (hd_at z hs hs.length).1) I')
/-- between lists: C are the conditions, m lists so far -/
def rh_in (z : Int32 × Int32) (hs : List Int32) (T : ty_st) (p : Int32) (gr : Bool) (a : Nat) (hd : Bool) (ts : List Int32) (of' : Int32) : Prop :=
  ∃ C gp y m, hd_at z hs a = (C, nI m, a, 7, gp, y) ∧ ts = tsof C ∧ 1 ≤ m ∧ m ≤ a ∧ (∀ c ∈ C, ∃ i, 1 ≤ i ∧ i ≤ m ∧ c.1 = nI i) ∧ C ≠ [] ∧ 2 * C.length ≤ a ∧ a ≤ hs.length ∧ hd = a_hol (a_cnd T.1 T.2.1 p) C true 1 ∧ of' = (if gp = -1 then p else gp) ∧ (gr = false → gp = -1) ∧ (gr = true → gp ≠ -1)
def rh_0 (z : Int32 × Int32) (hs : List Int32) (p : Int32) (a : Nat) (hd : Bool) (ts : List Int32) (of' : Int32) : Prop := a = 0 ∧ hd = decide (hs.length = 0) ∧ ts = [] ∧ of' = p
/-- after one list more -/
theorem rh_next {C D : List ty_cd} {lc gp' : Int32} {m a' : Nat} {y' : Int32 × Int32} {hd' : Bool} (hlt : a < a') (hlc : lc = nI m) (hma : m ≤ a) (hCm : ∀ c ∈ C, ∃ i, 1 ≤ i ∧ i ≤ m ∧ c.1 = nI i) (hA : hd_at z hs a' = (C ++ D, lc + 1, a', 7, gp', y')) (hD : D ≠ []) (hDl : ∀ c ∈ D, c.1 = lc + 1) (hlen : 2 * (C ++ D).length ≤ a') (hle : a' ≤ hs.length) (h24 : hs.length ≤ 24) (hh : hd' = (hd || D.all (a_cnd T.1 T.2.1 p))) (hh0 : (C = [] ∧ m = 0 ∧ hd = false) ∨ (1 ≤ m ∧ hd = a_hol (a_cnd T.1 T.2.1 p) C true 1)) (hg1 : gr = false → gp' = -1) (hg2 : gr = true → gp' ≠ -1) :
    rh_in z hs T p gr a' hd' (tsof (C ++ D)) (if gp' = -1 then p else gp') := by
  subst hlc
  rw [← nI_succ] at hA hDl
  refine ⟨C ++ D, gp', y', m + 1, hA, rfl, by omega, by omega, ?_, by simp [hD], hlen, hle, ?_, rfl, hg1, hg2⟩
  · intro c hc
    rcases List.mem_append.mp hc with hc | hc
    · obtain ⟨i, h1, h2, h3⟩ := hCm c hc
      exact ⟨i, h1, by omega, h3⟩
    · exact ⟨m + 1, by omega, by omega, hDl c hc⟩
  · rw [hh]
    rcases hh0 with ⟨rfl, rfl, rfl⟩ | ⟨hm1, rfl⟩
    · rw [List.nil_append, Bool.false_or]
      have := a_hol_same (f := a_cnd T.1 T.2.1 p) (m := 1) D true hDl
      rw [this, Bool.true_and]
    · rw [a_hol_app hD hDl C true 1]
      · intro e
        have := nI_inj (a := 1) (b := m + 1) (by omega) (by omega) e
        omega
      · intro c hc e
        obtain ⟨i, h1, h2, h3⟩ := hCm c hc
        rw [h3] at e
        have := nI_inj (by omega) (by omega) e
        omega
theorem hp_nopath {C : List ty_cd} {lc gp v w : Int32} {i : Nat} (hA : hd_at z hs i = (C, lc, i, 2, gp, v, w)) (hi : i ≤ hs.length) (hp : pf_path v = false) (hd : ∀ c, hs[i]? = some c → pf_dig c = false) : hd_gd z hs = false := by
  refine hd_bad hi (Or.inl ?_) ?_
  · rw [hA]; dsimp only; decide
  · intro c hc
    rw [hA]
    exact hd_no2 rfl c (hd c hc) (fun _ => hp)
theorem l94f (h : hm_rep hs a false hd ts I) (hf : fr_7 I0 I) (h0 : hd_gd z hs = false) {v2 v3 : Value} : mj_T pj_P 94 40 [.ref 87, .int p, v2, v3] [] (mz_SH L, I, R) (rh_post L z hs T p I0 R) := by
  have h87 := sm_87 L
  have g14 : I 87 14 = pz false := h.2.2.2.1
  refine mj_b_rload_n (hE := fe_94_40) (hv := rfl) (k := ?_)
  refine mj_b_getV (hE := fe_94_41) (hM := by assumption) (hv := by assumption) (k := ?_)
  refine mj_b_if1 (hE := fe_94_44) (kt := fun g => ?_) (kf := fun g => ?_)
  · exact mj_b_retV (hE := fe_94_139) (hi := in_94) ⟨I, rfl, hf, by rw [h0]; exact g14, fun e => by rw [h0] at e; cases e⟩
  · exact absurd g (by decide)
theorem l94g (h : hm_rep hs a false hd ts I) (hf : fr_7 I0 I) (h0 : hd_gd z hs = false) {v2 v3 : Value} : mj_T pj_P 94 115 [.ref 87, .int p, v2, v3] [] (mz_SH L, I, R) (rh_post L z hs T p I0 R) := by
  have h87 := sm_87 L
  have g14 : I 87 14 = pz false := h.2.2.2.1
  refine mj_b_rload_n (hE := fe_94_115) (hv := rfl) (k := ?_)
  refine mj_b_getV (hE := fe_94_116) (hM := by assumption) (hv := by assumption) (k := ?_)
  refine mj_b_if1 (hE := fe_94_119) (kt := fun g => ?_) (kf := fun g => ?_)
  · exact l94f h hf h0
  · exact absurd g (by decide)
set_option maxHeartbeats 4000000 in
theorem l94 (hm : mm_ok R) (ht0 : md_rep 0 T I0) (hnt : ar_nd T.1) (hnl : al_nd T.2.1) (hnm : ∀ c ∈ hs, pf_named c = true) (hgr : gr = decide (hs[0]? = some 47)) : ∀ k : Nat,
    (∀ (I : Nat → Nat → Int32) (a : Nat) (hd : Bool) (ts : List Int32) (of' : Int32), hs.length - a < k → hm_rep hs a true hd ts I → fr_7 I0 I → (rh_0 z hs p a hd ts of' ∨ (rh_in z hs T p gr a hd ts of' ∧ hs[a]? ≠ some 40)) → mj_T pj_P 94 40 [.ref 87, .int p, .int (pz gr), .int of'] [] (mz_SH L, I, R) (rh_post L z hs T p I0 R)) ∧
    (∀ (I : Nat → Nat → Int32) (a : Nat) (hd : Bool) (ts : List Int32) (of' : Int32), hs.length - a < k → hm_rep hs a true hd ts I → fr_7 I0 I → rh_in z hs T p gr a hd ts of' → mj_T pj_P 94 115 [.ref 87, .int p, .int (pz gr), .int of'] [] (mz_SH L, I, R) (rh_post L z hs T p I0 R)) := by
  have h87 := sm_87 L
  intro k
  induction k with
  | zero => exact ⟨fun _ _ _ _ _ h => by omega, fun _ _ _ _ _ h => by omega⟩
  | succ k ih =>
    obtain ⟨-, ihi⟩ := ih
    have outer : ∀ (I : Nat → Nat → Int32) (a : Nat) (hd : Bool) (ts : List Int32) (of' : Int32), hs.length - a < k + 1 → hm_rep hs a true hd ts I → fr_7 I0 I → (rh_0 z hs p a hd ts of' ∨ (rh_in z hs T p gr a hd ts of' ∧ hs[a]? ≠ some 40)) → mj_T pj_P 94 40 [.ref 87, .int p, .int (pz gr), .int of'] [] (mz_SH L, I, R) (rh_post L z hs T p I0 R) := by
      intro I a hd ts of' hk h hf hin
      have g14 : I 87 14 = pz true := h.2.2.2.1
      have c1 := h.2.2.1.1
      have l1 := h.1.1
      have l24 := h.1.2
      -- the state in one form
      have hst : ∃ C s gp y m, hd_at z hs a = (C, nI m, a, s, gp, y) ∧ ts = tsof C ∧ m ≤ a ∧ (∀ c ∈ C, ∃ i, 1 ≤ i ∧ i ≤ m ∧ c.1 = nI i) ∧ 2 * C.length ≤ a ∧ a ≤ hs.length ∧ (s = 0 ∨ s = 7) ∧ of' = (if gp = -1 then p else gp) ∧ (a < hs.length → (C = [] ∧ m = 0 ∧ hd = false) ∨ (1 ≤ m ∧ hd = a_hol (a_cnd T.1 T.2.1 p) C true 1)) ∧ (hs.length ≤ a → hd = a_hol (a_cnd T.1 T.2.1 p) C true 1) ∧ (gr = false → gp = -1) ∧ (gr = true → s = 0 ∨ (s = 7 ∧ gp ≠ -1)) ∧ (gr = true → hs[a]? ≠ some 47 → hs[a]? ≠ some 40) ∧ (gr = false → hs[a]? = some 47 → s = 7) := by
        rcases hin with ⟨rfl, e2, e3, e4⟩ | ⟨⟨C, gp, y, m, e1, e2, e3, e4, e5, e6, e7, e8, e9, e10, e11, e12⟩, e13⟩
        · refine ⟨[], 0, -1, z, 0, hd_at_0, e3, Nat.le_refl _, by simp, by simp, by omega, Or.inl rfl, by rw [e4]; rfl, ?_, ?_, fun _ => rfl, fun _ => Or.inl rfl, ?_, ?_⟩
          · intro hlt
            refine Or.inl ⟨rfl, rfl, ?_⟩
            rw [e2]
            exact decide_eq_false (by omega)
          · intro hle
            rw [e2, decide_eq_true (by omega)]
            rfl
          · intro hg h47
            rw [hg] at hgr
            exact absurd (of_decide_eq_true hgr.symm) h47
          · intro hg h47
            rw [hg] at hgr
            exact absurd h47 (of_decide_eq_false hgr.symm)
        · exact ⟨C, 7, gp, y, m, e1, e2, e4, e5, e7, e8, Or.inr rfl, e10, fun _ => Or.inr ⟨e3, e9⟩, fun _ => e9, e11, fun hg => Or.inr ⟨rfl, e12 hg⟩, fun _ _ => e13, fun _ _ => rfl⟩
      obtain ⟨C, s, gp, y, m, A1, A2, A3, A4, A5, A6, A7, A8, A9, A10, A11, A12, A13, A14⟩ := hst
      refine mj_b_rload_n (hE := fe_94_40) (hv := rfl) (k := ?_)
      refine mj_b_getV (hE := fe_94_41) (hM := by assumption) (hv := by assumption) (k := ?_)
      refine mj_b_if1 (hE := fe_94_44) (kt := fun g => ?_) (kf := fun g => ?_)
      · exact absurd g (by decide)
      · refine mj_b_rload_n (hE := fe_94_47) (hv := rfl) (k := ?_)
        refine mj_b_getV (hE := fe_94_48) (hM := by assumption) (hv := by assumption) (k := ?_)
        refine mj_b_rload_n (hE := fe_94_51) (hv := rfl) (k := ?_)
        refine mj_b_getV (hE := fe_94_52) (hM := by assumption) (hv := by assumption) (k := ?_)
        refine mj_b_if2 (hE := fe_94_55) (kt := fun g2 => ?_) (kf := fun g2 => ?_)
        · simp only [mj_cnd, decide_eq_true_eq] at g2
          rw [nI_le_iff (by omega) (by omega)] at g2
          have hae : a = hs.length := by omega
          subst hae
          have hgood := hp_good A1 A7
          refine mj_b_retV (hE := fe_94_139) (hi := in_94) ⟨I, rfl, hf, by rw [hgood]; exact g14, fun _ => ⟨?_, ?_⟩⟩
          · rw [A1, ← A10 (Nat.le_refl _)]; exact h.2.2.2.2.1
          · rw [A1, ← A2]; exact h.2.2.2.2.2
        · simp only [mj_cnd, decide_eq_false_iff_not] at g2
          rw [nI_le_iff (by omega) (by omega)] at g2
          have hlt : a < hs.length := by omega
          -- a list is read from I1, a1, and we come to the inner loop
          have p110 : ∀ (I1 : Nat → Nat → Int32) (a1 : Nat) (fm1 : Bool) (s1 gp1 gp' of1 : Int32) (y1 : Int32 × Int32), hm_rep hs a1 fm1 hd ts I1 → fr_7 I0 I1 → a ≤ a1 → a1 ≤ 40 → (fm1 = false → hd_gd z hs = false) → (fm1 = true → hd_at z hs a1 = (C, nI m, a1, s1, gp1, y1) ∧ hp_op hs a1 s1 gp1 gp' y1 ∧ of1 = (if gp' = -1 then p else gp') ∧ a1 ≤ hs.length ∧ (s1 = 2 ∨ a1 < hs.length) ∧ (hs[a1]? = some 47 → s1 = 2 ∨ (s1 = 7 ∧ gp1 = -1)) ∧ (gr = false → gp' = -1) ∧ (gr = true → gp' ≠ -1)) → mj_T pj_P 94 110 [.ref 87, .int p, .int (pz gr), .int of1] [] (mz_SH L, I1, R) (rh_post L z hs T p I0 R) := by
            intro I1 a1 fm1 s1 gp1 gp' of1 y1 h1 hf1 ha1 ha40 hb hp
            refine mj_b_rload_n (hE := fe_94_110) (hv := rfl) (k := ?_)
            refine mj_b_iload_n (hE := fe_94_111) (hv := rfl) (k := ?_)
            refine mj_b_call (hE := fe_94_112) (hi := in_97) (h1 := g97 (z := z) (T := T) p (C := C) (lc := nI m) (s := s1) (gp := gp1) (gp' := gp') (y := y1) hm h1 ha40 (ht0.f7 hf1) hnt hnl hnm hb (fun e => by obtain ⟨b1, b2, b3, b4, b5, b6, -⟩ := hp e; exact ⟨A2, b1, b2, b3, by omega, b4, b5, b6⟩)) (hc := mj_cok_v rfl rfl h87) (ha := rfl) (hr := rfl) ?_
            rintro v' M1 ⟨I2, a', fm', hd', ts', hM, hf2, h2, ha60, hbad, hgood⟩
            cases hM
            refine (show mj_T pj_P 94 115 [.ref 87, .int p, .int (pz gr), .int of1] [] (mz_SH L, I2, R) _ from ?_)
            cases fm' with
            | false => exact l94g h2 (hf1.trans hf2) (hbad rfl)
            | true =>
              obtain ⟨hfm, D, y', d1, d2, d3, d4, d5, d6, d7, d8⟩ := hgood rfl
              obtain ⟨-, -, b3, -, -, -, b7, b8⟩ := hp hfm
              rw [d1] at h2
              rw [b3]
              exact ihi I2 a' hd' _ _ (by omega) h2 (hf1.trans hf2) (rh_next (a := a) (by omega) rfl A3 A4 d2 d3 d4 d6 d7 l24 d5 (A9 hlt) b7 b8)
          refine mj_b_iload_n (hE := fe_94_58) (hv := rfl) (k := ?_)
          refine mj_b_if1 (hE := fe_94_59) (kt := fun g3 => ?_) (kf := fun g3 => ?_)
          · simp only [mj_cnd, decide_eq_true_eq, pz_0] at g3
            have hgp := A11 g3
            refine p110 I a true s gp gp of' y h hf (Nat.le_refl _) (by omega) (fun e => by cases e) (fun _ => ⟨A1, Or.inl ⟨A7, rfl⟩, A8, A6, Or.inr hlt, fun h47 => Or.inr ⟨A14 g3 h47, hgp⟩, fun _ => hgp, fun e => by rw [g3] at e; cases e⟩)
          · simp only [mj_cnd, decide_eq_false_iff_not, pz_0, Bool.not_eq_false] at g3
            refine mj_b_rload_n (hE := fe_94_62) (hv := rfl) (k := ?_)
            refine mj_b_rload_n (hE := fe_94_63) (hv := rfl) (k := ?_)
            refine mj_b_bipush (hE := fe_94_64) (k := ?_)
            refine mj_b_callR (hE := fe_94_66) (hi := in_95) (h1 := g95' 47 hm h) (hc := mj_cok_v rfl rfl h87) (ha := rfl) (hr := rfl) ?_
            have hh2 := (h.fm' (decide (hs[a]? = some 47))).at' (n := a + 1) (by omega)
            have f2 : fr_7 I0 (mj_u (mj_u I 87 14 (pz (decide (hs[a]? = some 47)))) 87 13 (nI (a + 1))) := (hf.trans (fr_7.u (by omega) (by omega))).trans (fr_7.u (by omega) (by omega))
            refine mj_b_putI (hE := fe_94_69) (hw := Or.inr ⟨rfl, pz_01 _⟩) (hM := h87) (k := ?_)
            refine mj_b_rload_n (hE := fe_94_72) (hv := rfl) (k := ?_)
            refine mj_b_dup (hE := fe_94_73) (hv := rfl) (k := ?_)
            refine mj_b_getV (hE := fe_94_74) (v := nI a) (hM := h87) (hv := by simp [mj_u, c1]) (k := ?_)
            refine mj_b_iconst (hE := fe_94_77) (k := ?_)
            refine mj_b_iadd (hE := fe_94_78) (k := ?_)
            refine mj_b_putI (hE := fe_94_79) (hw := Or.inl rfl) (hM := by assumption) (k := ?_)
            refine (show mj_T pj_P 94 82 [.ref 87, .int p, .int (pz gr), .int of'] [] (mz_SH L, mj_u (mj_u I 87 14 (pz (decide (hs[a]? = some 47)))) 87 13 (nI a + 1), R) _ from ?_)
            rw [← nI_succ]
            refine mj_b_rload_n (hE := fe_94_82) (hv := rfl) (k := ?_)
            refine mj_b_call (hE := fe_94_83) (hi := in_96) (h1 := g96 hm hh2 (by omega)) (hc := mj_cok_v rfl rfl h87) (ha := rfl) (hr := rfl) ?_
            rintro v' M1 ⟨I3, hM, h3, hf3⟩
            cases hM
            have hge := rn_ge (hs.drop (a + 1)) 0 0
            rw [List.length_drop] at hge
            have hgrp := fun h47 => hp_group A1 (A12 g3) h47
            generalize (rn_go (hs.drop (a + 1)) 0 0).1 = v at h3 hgrp ⊢
            generalize (rn_go (hs.drop (a + 1)) 0 0).2 = d at h3 hge hgrp ⊢
            have g14 := h3.2.2.2.1
            refine (show mj_T pj_P 94 86 [.ref 87, .int p, .int (pz gr), .int of'] [.int v] (mz_SH L, I3, R) _ from ?_)
            have p107 : ∀ t : Bool, t = ((decide (hs[a]? = some 47) && decide (1 ≤ d ∧ d ≤ 4)) && pf_path v) → mj_T pj_P 94 107 [.ref 87, .int p, .int (pz gr), .int v] [.int (pz t), .ref 87] (mz_SH L, I3, R) (rh_post L z hs T p I0 R) := by
              intro t htt
              have h4 := h3.fm' t
              refine mj_b_putI (hE := fe_94_107) (hw := Or.inr ⟨rfl, pz_01 _⟩) (hM := h87) (k := ?_)
              refine p110 _ (a + 1 + d) t 2 gp v v (v, nI d) h4 ((f2.trans hf3).trans (fr_7.u (by omega) (by omega))) (by omega) (by omega) ?_ ?_
              · intro hte
                rw [hte] at htt
                by_cases h47 : hs[a]? = some 47
                · obtain ⟨w1, w2, w3, w4⟩ := hgrp h47
                  by_cases hdd : 1 ≤ d ∧ d ≤ 4
                  · rw [decide_eq_true h47, decide_eq_true hdd] at htt
                    exact hp_nopath (w4 hdd) w1 (by simpa using htt.symm) w2
                  · exact w3 hdd
                · exact hp_noopen (gp' := gp) A1 (Or.inl ⟨A7, rfl⟩) (A13 g3 h47) A6 (Or.inr hlt) (fun e => absurd e h47)
              · intro hte
                rw [hte] at htt
                have ht2 := htt.symm
                simp only [Bool.and_eq_true, decide_eq_true_eq] at ht2
                obtain ⟨⟨h47, hdd⟩, hpv⟩ := ht2
                obtain ⟨w1, w2, w3, w4⟩ := hgrp h47
                have hv1 : v ≠ -1 := by rintro rfl; exact absurd hpv (by decide)
                exact ⟨w4 hdd, Or.inr ⟨rfl, hpv, rfl, w2⟩, by rw [if_neg hv1], w1, Or.inl rfl, fun _ => Or.inl rfl, (fun e => absurd (g3.symm.trans e) (by decide)), fun _ => hv1⟩
            refine mj_b_istore_n (hE := fe_94_86) (hx := Nat.le_of_ble_eq_true rfl) (k := ?_)
            refine mj_b_rload_n (hE := fe_94_87) (hv := rfl) (k := ?_)
            refine mj_b_rload_n (hE := fe_94_88) (hv := rfl) (k := ?_)
            refine mj_b_getV (hE := fe_94_89) (hM := by assumption) (hv := by assumption) (k := ?_)
            refine mj_b_if1 (hE := fe_94_92) (kt := fun g4 => ?_) (kf := fun g4 => ?_)
            · simp only [mj_cnd, decide_eq_true_eq, pz_0] at g4
              refine mj_b_iconst (hE := fe_94_106) (k := ?_)
              exact p107 false (by rw [g4]; rfl)
            · simp only [mj_cnd, decide_eq_false_iff_not, pz_0, Bool.not_eq_false] at g4
              refine mj_b_iload_n (hE := fe_94_95) (hv := rfl) (k := ?_)
              refine mj_b_callR (hE := fe_94_96) (hi := in_92) (h1 := g92 _ _) (hc := mj_cok_s rfl) (ha := rfl) (hr := rfl) ?_
              refine mj_b_if1 (hE := fe_94_99) (kt := fun g5 => ?_) (kf := fun g5 => ?_)
              · simp only [mj_cnd, decide_eq_true_eq, pz_0] at g5
                refine mj_b_iconst (hE := fe_94_106) (k := ?_)
                exact p107 false (by rw [g5, Bool.and_false])
              · simp only [mj_cnd, decide_eq_false_iff_not, pz_0, Bool.not_eq_false] at g5
                refine mj_b_iconst (hE := fe_94_102) (k := ?_)
                refine mj_b_goto (hE := fe_94_103) (k := ?_)
                exact p107 true (by rw [g4, g5]; rfl)
    refine ⟨outer, ?_⟩
    intro I a hd ts of' hk h hf hin
    have g14 : I 87 14 = pz true := h.2.2.2.1
    have l24 := h.1.2
    refine mj_b_rload_n (hE := fe_94_115) (hv := rfl) (k := ?_)
    refine mj_b_getV (hE := fe_94_116) (hM := by assumption) (hv := by assumption) (k := ?_)
    refine mj_b_if1 (hE := fe_94_119) (kt := fun g => ?_) (kf := fun g => ?_)
    · exact absurd g (by decide)
    · refine mj_b_rload_n (hE := fe_94_122) (hv := rfl) (k := ?_)
      refine mj_b_bipush (hE := fe_94_123) (k := ?_)
      refine mj_b_callR (hE := fe_94_125) (hi := in_95) (h1 := g95' 40 hm h) (hc := mj_cok_v rfl rfl h87) (ha := rfl) (hr := rfl) ?_
      refine mj_b_if1 (hE := fe_94_128) (kt := fun g2 => ?_) (kf := fun g2 => ?_)
      · simp only [mj_cnd, decide_eq_true_eq, pz_0, decide_eq_false_iff_not] at g2
        exact outer I a hd ts of' hk h hf (Or.inr ⟨hin, g2⟩)
      · simp only [mj_cnd, decide_eq_false_iff_not, pz_0, Decidable.not_not] at g2
        obtain ⟨C, gp, y, m, e1, e2, e3, e4, e5, e6, e7, e8, e9, e10, e11, e12⟩ := hin
        have hlt := (List.getElem?_eq_some_iff.mp g2).1
        refine mj_b_rload_n (hE := fe_94_131) (hv := rfl) (k := ?_)
        refine mj_b_iload_n (hE := fe_94_132) (hv := rfl) (k := ?_)
        refine mj_b_call (hE := fe_94_133) (hi := in_97) (h1 := g97 (z := z) (T := T) p (C := C) (lc := nI m) (s := 7) (gp := gp) (gp' := gp) (y := y) hm h (by omega) (ht0.f7 hf) hnt hnl hnm (fun e => by cases e) (fun _ => ⟨e2, e1, Or.inl ⟨Or.inr rfl, rfl⟩, e10, e7, e8, Or.inr hlt, fun h47 => by rw [g2] at h47; exact absurd h47 (by decide)⟩)) (hc := mj_cok_v rfl rfl h87) (ha := rfl) (hr := rfl) ?_
        rintro v' M1 ⟨I2, a', fm', hd', ts', hM, hf2, h2, ha60, hbad, hgood⟩
        cases hM
        refine (show mj_T pj_P 94 136 [.ref 87, .int p, .int (pz gr), .int of'] [] (mz_SH L, I2, R) _ from ?_)
        refine mj_b_goto (hE := fe_94_136) (k := ?_)
        cases fm' with
        | false => exact l94g h2 (hf.trans hf2) (hbad rfl)
        | true =>
          obtain ⟨-, D, y', d1, d2, d3, d4, d5, d6, d7, d8⟩ := hgood rfl
          rw [d1] at h2
          rw [e10]
          exact ihi I2 a' hd' _ _ (by omega) h2 (hf.trans hf2) (rh_next (a := a) d8 rfl e4 e5 d2 d3 d4 d6 d7 l24 d5 (Or.inr ⟨e3, e9⟩) e11 e12)
set_option maxHeartbeats 2000000 in
/-- LockedTreeModel.readHeader -/
theorem g94 (p : Int32) (hm : mm_ok R) (hl : I 87 12 = nI hs.length ∧ hs.length ≤ 24) (hch : ∀ i c, hs[i]? = some c → I 99 i = c) (ht : md_rep 0 T I) (hnt : ar_nd T.1) (hnl : al_nd T.2.1) (hnm : ∀ c ∈ hs, pf_named c = true) :
    mj_G pj_P 94 [.ref 87, .int p] (mz_SH L, I, R) (rh_post L z hs T p I R) := by
  have h87 := sm_87 L
  obtain ⟨hl1, hl2⟩ := hl
  have p28 : ∀ t : Bool, t = decide (hs.length = 0) → mj_T pj_P 94 28 [.ref 87, .int p, .retAddr 0, .retAddr 0] [.int (pz t), .ref 87] (mz_SH L, mj_u (mj_u (mj_u I 87 13 0) 87 17 0) 87 14 (pz true), R) (rh_post L z hs T p I R) := by
    intro t htt
    refine mj_b_putI (hE := fe_94_28) (hw := Or.inr ⟨rfl, pz_01 _⟩) (hM := h87) (k := ?_)
    have hf : fr_7 I (mj_u (mj_u (mj_u (mj_u I 87 13 0) 87 17 0) 87 14 (pz true)) 87 15 (pz t)) := (((fr_7.u (by omega) (by omega)).trans (fr_7.u (by omega) (by omega))).trans (fr_7.u (by omega) (by omega))).trans (fr_7.u (by omega) (by omega))
    have h0 : hm_rep hs 0 true t [] (mj_u (mj_u (mj_u (mj_u I 87 13 0) 87 17 0) 87 14 (pz true)) 87 15 (pz t)) :=
      ⟨⟨by simp [mj_u, hl1], hl2⟩, fun i c hc => by rw [hf _ _ (by omega) (by omega)]; exact hch i c hc, ⟨by simp [mj_u]; rfl, by omega⟩, by simp [mj_u], by simp [mj_u], ⟨by simp [mj_u]; rfl, by simp⟩, by simp⟩
    refine mj_b_rload_n (hE := fe_94_31) (hv := rfl) (k := ?_)
    refine mj_b_bipush (hE := fe_94_32) (k := ?_)
    refine mj_b_callR (hE := fe_94_34) (hi := in_95) (h1 := g95' 47 hm h0) (hc := mj_cok_v rfl rfl h87) (ha := rfl) (hr := rfl) ?_
    refine mj_b_istore_n (hE := fe_94_37) (hx := Nat.le_of_ble_eq_true rfl) (k := ?_)
    refine mj_b_iload_n (hE := fe_94_38) (hv := rfl) (k := ?_)
    refine mj_b_istore_n (hE := fe_94_39) (hx := Nat.le_of_ble_eq_true rfl) (k := ?_)
    exact (l94 (gr := decide (hs[0]? = some 47)) hm ht hnt hnl hnm rfl (hs.length + 1)).1 _ 0 t [] p (by omega) h0 hf (Or.inl ⟨rfl, htt, rfl, rfl⟩)
  refine mj_enter in_94 (L := [.ref 87, .int p, .retAddr 0, .retAddr 0]) rfl ?_
  refine mj_b_rload_n (hE := fe_94_0) (hv := rfl) (k := ?_)
  refine mj_b_iconst (hE := fe_94_1) (k := ?_)
  refine mj_b_putI (hE := fe_94_2) (hw := Or.inl rfl) (hM := by assumption) (k := ?_)
  refine mj_b_rload_n (hE := fe_94_5) (hv := rfl) (k := ?_)
  refine mj_b_iconst (hE := fe_94_6) (k := ?_)
  refine mj_b_putI (hE := fe_94_7) (hw := Or.inl rfl) (hM := by assumption) (k := ?_)
  refine mj_b_rload_n (hE := fe_94_10) (hv := rfl) (k := ?_)
  refine mj_b_iconst (hE := fe_94_11) (k := ?_)
  refine mj_b_putI (hE := fe_94_12) (hw := Or.inr ⟨rfl, Or.inr rfl⟩) (hM := h87) (k := ?_)
  refine mj_b_rload_n (hE := fe_94_15) (hv := rfl) (k := ?_)
  refine mj_b_rload_n (hE := fe_94_16) (hv := rfl) (k := ?_)
  refine mj_b_getV (hE := fe_94_17) (v := nI hs.length) (hM := h87) (hv := by simp [mj_u, hl1]) (k := ?_)
  refine mj_b_if1 (hE := fe_94_20) (kt := fun g => ?_) (kf := fun g => ?_)
  · simp only [mj_cnd, Bool.not_eq_true', decide_eq_false_iff_not] at g
    refine mj_b_iconst (hE := fe_94_27) (k := ?_)
    exact p28 false (by rw [eq_comm, decide_eq_false_iff_not]; intro e; rw [e] at g; exact g rfl)
  · simp only [mj_cnd, Bool.not_eq_false', decide_eq_true_eq] at g
    refine mj_b_iconst (hE := fe_94_23) (k := ?_)
    refine mj_b_goto (hE := fe_94_24) (k := ?_)
    exact p28 true (by rw [eq_comm, decide_eq_true_eq]; exact nI_inj (by omega) (by omega) g)
end MW
