/-! ===== the model: copy ===== -/
theorem x_cpm_app (p q : Int32) (dq : Bool) (r : ty_rw) : ∀ (l : List ty_rw) (ns : Int32), x_cpm p q dq (l ++ [r]) ns = x_cpm p q dq l ns ++ (if pf_taken r.1 p dq = true then [(pf_answering r.1 p q, r.2.1, r.2.2.1, ns + nI (x_cpm p q dq l ns).length, r.2.2.2.2)] else []) := by
  intro l
  induction l with
  | nil =>
    intro ns
    simp only [List.nil_append, x_cpm, List.length_nil]
    rw [show nI 0 = 0 from rfl, Int32.add_zero]
  | cons a l ih =>
    intro ns
    simp only [List.cons_append, x_cpm]
    split
    · rw [ih (ns + 1), List.cons_append, List.length_cons, nI_succ]
      congr 3
      rw [Int32.add_assoc, Int32.add_comm 1]
    · exact ih ns
theorem x_cpm_len (p q : Int32) (dq : Bool) : ∀ (l : List ty_rw) (ns : Int32), (x_cpm p q dq l ns).length = l.countP (fun r => pf_taken r.1 p dq) := by
  intro l
  induction l with
  | nil => intro ns; rfl
  | cons a l ih =>
    intro ns
    simp only [x_cpm, List.countP_cons]
    split
    · rw [List.length_cons, ih]
    · rw [ih]; rfl
section NM
variable {L n : Nat} {S Sx : ty_st} {H : ty_hd} {rs : List ty_rw} {U : ty_st} {ts hs ms : List Int32} {f w : Int32} {I I' I0 I1 : Nat → Nat → Int32} {R : Nat → Nat → Option Nat} {Q : Option Value × mj_H → Prop} {z : Int32 × Int32}
/-- the properties of the last row of the second side -/
theorem md_rep.prp3 {qs : List ty_rw} {r : ty_rw} {z2 : List ty_lk × Int32 × Int32 × Int32} (h : md_rep 1 (qs ++ [r], z2) I) (a b c : Int32) : md_rep 1 (qs ++ [(r.1, r.2.1, r.2.2.1, r.2.2.2.1, a, b, c)], z2) (mj_u (mj_u (mj_u I 92 (3 * (20 + qs.length) + 0) a) 92 (3 * (20 + qs.length) + 1) b) 92 (3 * (20 + qs.length) + 2) c) ∧ fr_2 I (mj_u (mj_u (mj_u I 92 (3 * (20 + qs.length) + 0) a) 92 (3 * (20 + qs.length) + 1) b) 92 (3 * (20 + qs.length) + 2) c) := by
  obtain ⟨h0, ⟨a1, a2⟩, ⟨b1, b2⟩, hr, hl, c1, c2, c3⟩ := h
  simp only [Nat.mul_one, Nat.reduceAdd] at a1 b1 hr hl c1 c2 c3
  have hoff : ∀ x j, ¬ (x = 92 ∧ 3 * (20 + qs.length) ≤ j ∧ j < 3 * (20 + qs.length) + 3) → (mj_u (mj_u (mj_u I 92 (3 * (20 + qs.length) + 0) a) 92 (3 * (20 + qs.length) + 1) b) 92 (3 * (20 + qs.length) + 2) c) x j = I x j := by
    intro x j hx
    have e1 : ¬ (x = 92 ∧ j = 3 * (20 + qs.length) + 0) := by omega
    have e2 : ¬ (x = 92 ∧ j = 3 * (20 + qs.length) + 1) := by omega
    have e3 : ¬ (x = 92 ∧ j = 3 * (20 + qs.length) + 2) := by omega
    simp only [mj_u, e1, e2, e3, if_false]
  refine ⟨⟨h0, ⟨?_, by simpa using a2⟩, ⟨?_, b2⟩, ?_, ?_, ?_, ?_, ?_⟩, ?_⟩
  · rw [hoff _ _ (by omega)]; simpa using a1
  · rw [hoff _ _ (by omega)]; exact b1
  · intro i q hi
    simp only [Nat.mul_one]
    dsimp only at hi
    rw [List.getElem?_append] at hi
    split at hi
    · rename_i hlt
      have hi2 : (qs ++ [r])[i]? = some q := by rw [List.getElem?_append_left hlt]; exact hi
      obtain ⟨k0, k1, k2, k3, k4, k5, k6⟩ := hr i q hi2
      refine ⟨?_, ?_, ?_, ?_, ?_, ?_, ?_⟩ <;> rw [hoff _ _ (by omega)] <;> assumption
    · have hl2 := (List.getElem?_eq_some_iff.mp hi).1
      simp only [List.length_cons, List.length_nil] at hl2
      have e : i = qs.length := by omega
      subst e
      simp only [Nat.sub_self, List.getElem?_cons_zero, Option.some.injEq] at hi
      have hi2 : (qs ++ [r])[qs.length]? = some r := by simp
      obtain ⟨k0, k1, k2, k3, k4, k5, k6⟩ := hr qs.length r hi2
      rw [← hi]
      refine ⟨by simp [mj_u, k0], by simp [mj_u, k1], by simp [mj_u, k2], by simp [mj_u, k3], by simp [mj_u], by simp [mj_u], by simp [mj_u]⟩
  · intro i l hi
    simp only [Nat.mul_one]
    exact (hl i l hi).eq (fun x k h1 h2 => hoff _ _ (by omega))
  · rw [hoff _ _ (by omega)]; exact c1
  · rw [hoff _ _ (by omega)]; exact c2
  · rw [hoff _ _ (by omega)]; exact c3
  · intro x k h1 h2 h3 h4
    exact hoff _ _ (by omega)
/-- the rows that have been passed, up to x -/
def cq_l (S : ty_st) (pn x : Nat) : List ty_rw := (List.range' pn (x - pn)).filterMap (fun y => ar_get S.1 (nI y))
theorem cq_s (S : ty_st) {pn x : Nat} (h : pn ≤ x) : cq_l S pn (x + 1) = cq_l S pn x ++ (ar_get S.1 (nI x)).toList := by
  unfold cq_l
  rw [show x + 1 - pn = (x - pn) + 1 by omega, List.range'_concat, List.filterMap_append]
  congr 1
  rw [show pn + 1 * (x - pn) = x by omega]
  rw [List.filterMap_cons]
  all_goals (cases ar_get S.1 (nI x) <;> rfl)
set_option maxHeartbeats 4000000 in
theorem l118 {p q : Int32} {dq : Bool} {pn : Nat} {v4 v5 v6 : Value} {B : List ty_rw} (hm : mm_ok R) (hr : m_rel n S H f rs hs) (hpn : p = nI pn) (hpn2 : pn ≤ 4095) (hp : pf_path p = true) (hq : pf_path q = true) (hp0 : p ≠ 0) (hrd : cp_rdy (fun x => pf_taken x p dq) (fun x => pf_answering x p q) S.1 (S.1.filter (ar_out q))) (hB : B.Perm (S.1.filter (ar_out q))) (h0 : md_rep 0 (rs, S.2) I0)
    (hk : ∀ I1 v7 v8 v9 v10 v11, md_rep 1 (B ++ x_cpm p q dq S.1 S.2.2.2.1, S.2.1, S.2.2.1, S.2.2.2.1 + nI (x_cpm p q dq S.1 S.2.2.2.1).length, S.2.2.2.2) I1 → fr_2 I0 I1 → mj_T pj_P 118 203 [.ref 87, .int p, .int q, .int (pz dq), v4, v5, v6, v7, v8, v9, v10, v11] [] (mz_SH L, I1, R) Q) :
    ∀ (k x : Nat) (I1 : Nat → Nat → Int32) (v8 v9 v10 v11 : Value), x + k = 4096 → pn ≤ x → md_rep 1 (B ++ x_cpm p q dq (cq_l S pn x) S.2.2.2.1, S.2.1, S.2.2.1, S.2.2.2.1 + nI (x_cpm p q dq (cq_l S pn x) S.2.2.2.1).length, S.2.2.2.2) I1 → fr_2 I0 I1 → mj_T pj_P 118 78 [.ref 87, .int p, .int q, .int (pz dq), v4, v5, v6, .int (nI x), v8, v9, v10, v11] [] (mz_SH L, I1, R) Q := by
  have hm0 := hm
  obtain ⟨q0, q1, q2, q3, q4, q5, q6, q7, q8, q9, q10, q11, q16, q21⟩ := hm
  have h87 := sm_87 L
  have h89 := sm_89 L
  have h90 := sm_90 L
  have h92 := sm_92 L
  have hso := hr.2.1.1.1
  have hpath : ∀ r ∈ S.1, pf_path r.1 = true := fun r h => (hr.2.1.1.2.2.1 r h).1
  have hF : cq_l S pn 4096 = S.1.filter (fun r => decide (p ≤ r.1)) := by rw [hpn]; exact sc_from hso hpath (by omega)
  intro k
  induction k with
  | zero =>
    intro x I1 v8 v9 v10 v11 hx hpx h hf
    have hx0 : x = 4096 := by omega
    subst hx0
    rw [hF, x_cpm_from hp hpath] at h
    refine mj_b_iload (hE := fe_118_78) (hv := rfl) (k := ?_)
    refine mj_b_sipush (hE := fe_118_80) (k := ?_)
    refine mj_b_if2 (hE := fe_118_83) (kt := fun g => ?_) (kf := fun g => ?_)
    · exact hk _ _ _ _ _ _ h hf
    · exact absurd g (by decide +kernel)
  | succ k ih =>
    intro x I1 v8 v9 v10 v11 hx hpx h hf
    have hneg := hr.neg (nI x)
    have h1 := h0.two hf
    have g101c := g101' (L := L) (s := 0) (nI x) hm0 h1 hr.ndT
    rw [Nat.mul_zero] at g101c
    dsimp only at g101c
    have hcs := cq_s S hpx
    have hnx : ∀ (I2 : Nat → Nat → Int32) (v8 v9 v10 v11 : Value), md_rep 1 (B ++ x_cpm p q dq (cq_l S pn (x + 1)) S.2.2.2.1, S.2.1, S.2.2.1, S.2.2.2.1 + nI (x_cpm p q dq (cq_l S pn (x + 1)) S.2.2.2.1).length, S.2.2.2.2) I2 → fr_2 I0 I2 → mj_T pj_P 118 197 [.ref 87, .int p, .int q, .int (pz dq), v4, v5, v6, .int (nI x), v8, v9, v10, v11] [] (mz_SH L, I2, R) Q := by
      intro I2 v8 v9 v10 v11 h2 hf2
      refine mj_b_iinc (hE := fe_118_197) (hv := rfl) (k := ?_)
      refine mj_b_goto (hE := fe_118_200) (k := ?_)
      refine (show mj_T pj_P 118 78 [.ref 87, .int p, .int q, .int (pz dq), v4, v5, v6, .int (nI x + 1), v8, v9, v10, v11] [] (mz_SH L, I2, R) Q from ?_)
      rw [← nI_succ]
      exact ih (x + 1) I2 v8 v9 v10 v11 (by omega) (by omega) h2 hf2
    refine mj_b_iload (hE := fe_118_78) (hv := rfl) (k := ?_)
    refine mj_b_sipush (hE := fe_118_80) (k := ?_)
    refine mj_b_if2 (hE := fe_118_83) (kt := fun g => ?_) (kf := fun g => ?_)
    · simp only [mj_cnd, decide_eq_true_eq] at g
      exact absurd g (by rw [show (4095 : Int32) = nI 4095 from rfl, nI_lt_iff (by omega) (by omega)]; omega)
    · refine mj_b_rload_n (hE := fe_118_86) (hv := rfl) (k := ?_)
      refine mj_b_iload (hE := fe_118_87) (hv := rfl) (k := ?_)
      refine mj_b_iconst (hE := fe_118_89) (k := ?_)
      refine mj_b_callR (hE := fe_118_90) (hi := in_101) (h1 := g101c) (hc := mj_cok_v rfl rfl h87) (ha := rfl) (hr := rfl) ?_
      cases hfi : ar_fi rs (nI x) with
      | none =>
        have hgn : ar_get S.1 (nI x) = none := by rw [← ar_get_perm hr.1 hr.nd]; exact ar_fi_getN hfi
        rw [hgn] at hcs
        simp only [Option.toList_none, List.append_nil] at hcs
        refine mj_b_istore (hE := fe_118_93) (hx := Nat.le_of_ble_eq_true rfl) (k := ?_)
        refine mj_b_iload (hE := fe_118_95) (hv := rfl) (k := ?_)
        refine mj_b_if1 (hE := fe_118_97) (kt := fun g2 => ?_) (kf := fun g2 => ?_)
        · exact hnx I1 _ _ _ _ (by rw [hcs]; exact h) hf
        · exact absurd g2 (by decide)
      | some j =>
        obtain ⟨r, hjr, hrp⟩ := ar_fi_some hfi
        have hjl := (List.getElem?_eq_some_iff.mp hjr).1
        have hlen := hr.len
        have h13 := hr.2.1.1.2.1
        have hgr : ar_get S.1 (nI x) = some r := by rw [← ar_get_perm hr.1 hr.nd, ← ar_fi_get hfi]; exact hjr
        obtain ⟨hrS, -⟩ := (ar_get_iff hr.nd).mp hgr
        rw [hgr] at hcs
        simp only [Option.toList_some] at hcs
        obtain ⟨r0, r1, r2, r3, r4, r5, r6⟩ := h1.2.2.2.1 j r hjr
        simp only [Nat.mul_zero, Nat.zero_add] at r0 r1 r2 r3 r4 r5 r6
        have hnot : pf_taken r.1 p dq = false → ∀ v8, mj_T pj_P 118 197 [.ref 87, .int p, .int q, .int (pz dq), v4, v5, v6, .int (nI x), v8, v9, v10, v11] [] (mz_SH L, I1, R) Q := by
          intro ht v8
          refine hnx I1 _ _ _ _ ?_ hf
          rw [hcs, x_cpm_app, ht]
          simpa using h
        have htake : pf_taken r.1 p dq = true → mj_T pj_P 118 119 [.ref 87, .int p, .int q, .int (pz dq), v4, v5, v6, .int (nI x), .int (nI j), v9, v10, v11] [] (mz_SH L, I1, R) Q := by
          intro ht
          have hw := pf_taken_within ht
          rw [hrp] at hw
          have hpx2 : pf_path (nI x) = true := by rw [← hrp]; exact hpath r hrS
          -- the rows so far are a part of all, and r is not among them
          have hsplit : ∃ rest, S.1.filter (fun r => decide (p ≤ r.1)) = cq_l S pn x ++ r :: rest := by
            refine ⟨(List.range' (x + 1) (4095 - x)).filterMap (fun y => ar_get S.1 (nI y)), ?_⟩
            rw [← hF]
            unfold cq_l
            have e1 : List.range' pn (4096 - pn) = List.range' pn (x - pn) ++ List.range' x (4096 - x) := by
              have := List.range'_append_1 (s := pn) (m := x - pn) (n := 4096 - x)
              rw [show pn + (x - pn) = x by omega, show x - pn + (4096 - x) = 4096 - pn by omega] at this
              exact this.symm
            rw [e1, List.filterMap_append]
            congr 1
            rw [show 4096 - x = (4095 - x) + 1 by omega, List.range'_succ, List.filterMap_cons, hgr]
          obtain ⟨rest, hsp⟩ := hsplit
          have hsubl : (cq_l S pn x ++ r :: rest).Sublist S.1 := by rw [← hsp]; exact List.filter_sublist
          have hcnt : (cq_l S pn x).countP (fun r => pf_taken r.1 p dq) + 1 ≤ S.1.countP (fun r => pf_taken r.1 p dq) := by
            have := hsubl.countP_le (p := fun r => pf_taken r.1 p dq)
            rw [List.countP_append, List.countP_cons, ht] at this
            simp only [if_true] at this
            omega
          have hpw := hrd.2.2.2.sublist hsubl
          have hBl : B.length = (S.1.filter (ar_out q)).length := hB.length_eq
          have hroom : (B ++ x_cpm p q dq (cq_l S pn x) S.2.2.2.1).length < 13 := by
            rw [List.length_append, x_cpm_len, hBl]
            have := hrd.2.1
            dsimp only at this
            omega
          have hfree : ar_has (B ++ x_cpm p q dq (cq_l S pn x) S.2.2.2.1) (pf_answering (nI x) p q) = false := by
            rw [← Bool.not_eq_true]
            intro hh
            obtain ⟨y, hy, hye⟩ := ar_has_iff.mp hh
            rcases List.mem_append.mp hy with hy | hy
            · have h2 := hrd.2.2.1 r hrS ht
              rw [← ar_has_perm hB, hrp, ← Bool.not_eq_true] at h2
              exact h2 (ar_has_iff.mpr ⟨y, hy, hye⟩)
            · obtain ⟨r', h1', h2', h3', -⟩ := x_cpm_mem _ _ hy
              have := (List.pairwise_append.mp hpw).2.2 r' h1' r (List.mem_cons_self ..) h2' ht
              rw [h3', ← hrp] at hye
              exact this hye
          have hndB : ar_nd (B ++ x_cpm p q dq (cq_l S pn x) S.2.2.2.1 ++ [(pf_answering (nI x) p q, r.2.1, r.2.2.1, S.2.2.2.1 + nI (x_cpm p q dq (cq_l S pn x) S.2.2.2.1).length, 0, 0, 0)]) := by
            have hnB : ar_nd B := (ar_sorted.nd hrd.1).perm hB.symm
            refine List.pairwise_append.mpr ⟨List.pairwise_append.mpr ⟨hnB, ?_, ?_⟩, List.pairwise_singleton _ _, ?_⟩
            · have hpl := (List.pairwise_append.mp hpw).1
              have : ∀ (l : List ty_rw) (ns : Int32), l.Pairwise (fun a c => pf_taken a.1 p dq = true → pf_taken c.1 p dq = true → pf_answering a.1 p q ≠ pf_answering c.1 p q) → (x_cpm p q dq l ns).Pairwise (fun a b => a.1 ≠ b.1) := by
                intro l
                induction l with
                | nil => intro ns _; exact List.Pairwise.nil
                | cons a l ih2 =>
                  intro ns hl
                  obtain ⟨l1, l2⟩ := List.pairwise_cons.mp hl
                  simp only [x_cpm]
                  split
                  · rename_i hta
                    refine List.pairwise_cons.mpr ⟨?_, ih2 _ l2⟩
                    intro y hy
                    obtain ⟨r', h1', h2', h3', -⟩ := x_cpm_mem _ _ hy
                    rw [h3']
                    exact l1 r' h1' hta h2'
                  · exact ih2 _ l2
              exact this _ _ hpl
            · intro a ha y hy e
              obtain ⟨r', h1', h2', h3', -⟩ := x_cpm_mem _ _ hy
              have hr'S : r' ∈ S.1 := hsubl.mem (List.mem_append_left _ h1')
              have h2 := hrd.2.2.1 r' hr'S h2'
              rw [← ar_has_perm hB, ← Bool.not_eq_true] at h2
              exact h2 (ar_has_iff.mpr ⟨a, ha, by rw [e, h3']⟩)
            · intro a ha y hy e
              rw [List.mem_singleton.mp hy] at e
              rw [← Bool.not_eq_true] at hfree
              exact hfree (ar_has_iff.mpr ⟨a, ha, e⟩)
          have hkind : (if decide (r.2.1 = 2) = true then (2 : Int32) else 1) = r.2.1 := by
            rcases (hr.2.1.1.2.2.1 r hrS).2 with e | e <;> rw [e] <;> decide
          refine mj_b_iload (hE := fe_118_119) (hv := rfl) (k := ?_)
          refine mj_b_iload_n (hE := fe_118_121) (hv := rfl) (k := ?_)
          refine mj_b_iload_n (hE := fe_118_122) (hv := rfl) (k := ?_)
          refine mj_b_callR (hE := fe_118_123) (hi := in_123) (h1 := g123 hpx2 hp hq hp0 hw) (hc := mj_cok_s rfl) (ha := rfl) (hr := rfl) ?_
          refine mj_b_istore (hE := fe_118_126) (hx := Nat.le_of_ble_eq_true rfl) (k := ?_)
          refine mj_b_rload_n (hE := fe_118_128) (hv := rfl) (k := ?_)
          refine mj_b_iload (hE := fe_118_129) (hv := rfl) (k := ?_)
          refine mj_b_rload_n (hE := fe_118_131) (hv := rfl) (k := ?_)
          refine mj_b_getQ (hE := fe_118_132) (hM := by assumption) (hv := by assumption) (k := ?_)
          refine mj_b_iload (hE := fe_118_135) (hv := rfl) (k := ?_)
          refine mj_b_baldN (hE := fe_118_137) (v := pz (decide (r.2.1 = 2))) (hM := h89) (hj := rfl) (hc := by omega) (hn := by decide) (hv := r1) (k := ?_)
          refine mj_b_rload_n (hE := fe_118_138) (hv := rfl) (k := ?_)
          refine mj_b_getQ (hE := fe_118_139) (hM := by assumption) (hv := by assumption) (k := ?_)
          refine mj_b_iload (hE := fe_118_142) (hv := rfl) (k := ?_)
          refine mj_b_ialdN (hE := fe_118_144) (v := r.2.2.1) (hM := h90) (ht := Or.inr rfl) (hj := rfl) (hc := by omega) (hn := by decide) (hv := r2) (k := ?_)
          refine mj_b_call (hE := fe_118_145) (hi := in_107) (h1 := g107 (pf_answering (nI x) p q) (decide (r.2.1 = 2)) r.2.2.1 hm0 h hroom) (hc := mj_cok_v rfl rfl h87) (ha := rfl) (hr := rfl) ?_
          rintro v' M1 ⟨I2, hM, hu2, f2⟩
          cases hM
          dsimp only at hu2
          rw [hkind] at hu2
          have g101d := g101' (L := L) (s := 1) (pf_answering (nI x) p q) hm0 hu2 hndB
          generalize hqs : B ++ x_cpm p q dq (cq_l S pn x) S.2.2.2.1 = qs at hu2 hroom hndB g101d hfree
          have hfi2 : ar_fi (qs ++ [(pf_answering (nI x) p q, r.2.1, r.2.2.1, S.2.2.2.1 + nI (x_cpm p q dq (cq_l S pn x) S.2.2.2.1).length, 0, 0, 0)]) (pf_answering (nI x) p q) = some qs.length := by
            unfold ar_fi
            rw [List.findIdx?_append]
            have : qs.findIdx? (fun r => decide (r.1 = pf_answering (nI x) p q)) = none := ar_fi_none hfree
            rw [this]
            simp
          dsimp only at g101d
          rw [hfi2] at g101d
          have hrr := (h1.two f2).2.2.2.1 j r hjr
          obtain ⟨-, -, -, -, s4, s5, s6⟩ := hrr
          simp only [Nat.mul_zero, Nat.zero_add] at s4 s5 s6
          obtain ⟨hp3, fp3⟩ := hu2.prp3 r.2.2.2.2.1 r.2.2.2.2.2.1 r.2.2.2.2.2.2
          refine (show mj_T pj_P 118 148 [.ref 87, .int p, .int q, .int (pz dq), v4, v5, v6, .int (nI x), .int (nI j), .int (pf_answering (nI x) p q), v10, v11] [] (mz_SH L, I2, R) _ from ?_)
          refine mj_b_rload_n (hE := fe_118_148) (hv := rfl) (k := ?_)
          refine mj_b_iload (hE := fe_118_149) (hv := rfl) (k := ?_)
          refine mj_b_bipush (hE := fe_118_151) (k := ?_)
          refine mj_b_callR (hE := fe_118_153) (hi := in_101) (h1 := g101d) (hc := mj_cok_v rfl rfl h87) (ha := rfl) (hr := rfl) ?_
          refine (show mj_T pj_P 118 156 _ [.int (nI (20 + qs.length))] _ _ from ?_)
          have st : ∀ (I3 : Nat → Nat → Int32) (i : Nat) (v : Int32) (Qq : Option Value × mj_H → Prop), i < 3 → I3 92 (3 * j + i) = v → mj_T pj_P 118 161 [.ref 87, .int p, .int q, .int (pz dq), v4, v5, v6, .int (nI x), .int (nI j), .int (pf_answering (nI x) p q), .int (nI (20 + qs.length)), .int (nI (i + 1))] [] (mz_SH L, mj_u I3 92 (3 * (20 + qs.length) + i) v, R) Qq → mj_T pj_P 118 161 [.ref 87, .int p, .int q, .int (pz dq), v4, v5, v6, .int (nI x), .int (nI j), .int (pf_answering (nI x) p q), .int (nI (20 + qs.length)), .int (nI i)] [] (mz_SH L, I3, R) Qq := by
            intro I3 i v Qq hi hv hQ
            refine mj_b_iload (hE := fe_118_161) (hv := rfl) (k := ?_)
            refine mj_b_iconst (hE := fe_118_163) (k := ?_)
            refine mj_b_if2 (hE := fe_118_164) (kt := fun g4 => ?_) (kf := fun g4 => ?_)
            · simp only [mj_cnd, decide_eq_true_eq] at g4
              exact absurd g4 (by rw [show (3 : Int32) = nI 3 from rfl, nI_le_iff (by omega) (by omega)]; omega)
            · refine mj_b_rload_n (hE := fe_118_167) (hv := rfl) (k := ?_)
              refine mj_b_getQ (hE := fe_118_168) (hM := by assumption) (hv := by assumption) (k := ?_)
              refine mj_b_iconst (hE := fe_118_171) (k := ?_)
              refine mj_b_iload (hE := fe_118_172) (hv := rfl) (k := ?_)
              refine mj_b_imul (hE := fe_118_174) (k := ?_)
              refine mj_b_iload (hE := fe_118_175) (hv := rfl) (k := ?_)
              refine mj_b_iadd (hE := fe_118_177) (k := ?_)
              refine mj_b_rload_n (hE := fe_118_178) (hv := rfl) (k := ?_)
              refine mj_b_getQ (hE := fe_118_179) (hM := by assumption) (hv := by assumption) (k := ?_)
              refine mj_b_iconst (hE := fe_118_182) (k := ?_)
              refine mj_b_iload (hE := fe_118_183) (hv := rfl) (k := ?_)
              refine mj_b_imul (hE := fe_118_185) (k := ?_)
              refine mj_b_iload (hE := fe_118_186) (hv := rfl) (k := ?_)
              refine mj_b_iadd (hE := fe_118_188) (k := ?_)
              refine mj_b_ialdN (hE := fe_118_189) (v := v) (hM := h92) (ht := Or.inr rfl) (hj := m3_mul j i) (hc := by omega) (hn := by decide) (hv := hv) (k := ?_)
              refine mj_b_iastN (hE := fe_118_190) (hM := h92) (hj := m3_mul (20 + qs.length) i) (hc := by omega) (hn := by decide) (k := ?_)
              refine mj_b_iinc (hE := fe_118_191) (hv := rfl) (k := ?_)
              refine mj_b_goto (hE := fe_118_194) (k := ?_)
              exact (show mj_T pj_P 118 161 [.ref 87, .int p, .int q, .int (pz dq), v4, v5, v6, .int (nI x), .int (nI j), .int (pf_answering (nI x) p q), .int (nI (20 + qs.length)), .int (nI i + 1)] [] (mz_SH L, mj_u I3 92 (3 * (20 + qs.length) + i) v, R) Qq from (nI_succ i) ▸ hQ)
          refine mj_b_istore (hE := fe_118_156) (hx := Nat.le_of_ble_eq_true rfl) (k := ?_)
          refine mj_b_iconst (hE := fe_118_158) (k := ?_)
          refine mj_b_istore (hE := fe_118_159) (hx := Nat.le_of_ble_eq_true rfl) (k := ?_)
          have y1 : ¬ 3 * j + 1 = 3 * (20 + qs.length) := by omega
          have y2 : ¬ 3 * j + 2 = 3 * (20 + qs.length) := by omega
          have y3 : ¬ 3 * j + 2 = 3 * (20 + qs.length) + 1 := by omega
          refine st _ 0 r.2.2.2.2.1 _ (by omega) s4 ?_
          refine st _ 1 r.2.2.2.2.2.1 _ (by omega) (by simp [mj_u, y1, s5]) ?_
          refine st _ 2 r.2.2.2.2.2.2 _ (by omega) (by simp [mj_u, y2, y3, s6]) ?_
          refine mj_b_iload (hE := fe_118_161) (hv := rfl) (k := ?_)
          refine mj_b_iconst (hE := fe_118_163) (k := ?_)
          refine mj_b_if2 (hE := fe_118_164) (kt := fun g4 => ?_) (kf := fun g4 => ?_)
          · refine hnx _ _ _ _ _ ?_ ((hf.trans f2).trans fp3)
            rw [hcs, x_cpm_app, ht]
            simp only [if_true]
            rw [← List.append_assoc, hqs, List.length_append, hrp]
            have e5 : S.2.2.2.1 + nI ((x_cpm p q dq (cq_l S pn x) S.2.2.2.1).length + [(pf_answering (nI x) p q, r.2.1, r.2.2.1, S.2.2.2.1 + nI (x_cpm p q dq (cq_l S pn x) S.2.2.2.1).length, r.2.2.2.2)].length) = S.2.2.2.1 + nI (x_cpm p q dq (cq_l S pn x) S.2.2.2.1).length + 1 := by
              rw [List.length_singleton, nI_succ, Int32.add_assoc]
            rw [e5]
            exact hp3
          · exact absurd g4 (by decide)
        have tk : ∀ {b : Bool}, b = (decide (nI x = p) || (dq && pf_below (nI x) p)) → pf_taken r.1 p dq = b := by
          intro b hb
          rw [hrp, hb]
          rfl
        refine mj_b_istore (hE := fe_118_93) (hx := Nat.le_of_ble_eq_true rfl) (k := ?_)
        refine mj_b_iload (hE := fe_118_95) (hv := rfl) (k := ?_)
        refine mj_b_if1 (hE := fe_118_97) (kt := fun g2 => ?_) (kf := fun g2 => ?_)
        · exact absurd (of_decide_eq_true g2) (nI_pos (n := 0 + j) (by omega))
        · refine (show mj_T pj_P 118 100 [.ref 87, .int p, .int q, .int (pz dq), v4, v5, v6, .int (nI x), .int (nI (0 + j)), v9, v10, v11] [] (mz_SH L, I1, R) Q from ?_)
          rw [Nat.zero_add]
          refine mj_b_iload (hE := fe_118_100) (hv := rfl) (k := ?_)
          refine mj_b_iload_n (hE := fe_118_102) (hv := rfl) (k := ?_)
          refine mj_b_if2 (hE := fe_118_103) (kt := fun k1 => ?_) (kf := fun k1 => ?_)
          · simp only [mj_cnd, decide_eq_true_eq] at k1
            exact htake (tk (by simp [k1]))
          · simp only [mj_cnd, decide_eq_false_iff_not] at k1
            refine mj_b_iload_n (hE := fe_118_106) (hv := rfl) (k := ?_)
            refine mj_b_if1 (hE := fe_118_107) (kt := fun k2 => ?_) (kf := fun k2 => ?_)
            · simp only [mj_cnd, decide_eq_true_eq, pz_0] at k2
              exact hnot (tk (by simp [k1, k2])) _
            · simp only [mj_cnd, decide_eq_false_iff_not, pz_0, Bool.not_eq_false] at k2
              refine mj_b_iload (hE := fe_118_110) (hv := rfl) (k := ?_)
              refine mj_b_iload_n (hE := fe_118_112) (hv := rfl) (k := ?_)
              refine mj_b_callR (hE := fe_118_113) (hi := in_100) (h1 := g100 _ _ _) (hc := mj_cok_s rfl) (ha := rfl) (hr := rfl) ?_
              refine mj_b_if1 (hE := fe_118_116) (kt := fun k3 => ?_) (kf := fun k3 => ?_)
              · simp only [mj_cnd, decide_eq_true_eq, pz_0] at k3
                exact hnot (tk (by simp [k1, k3])) _
              · simp only [mj_cnd, decide_eq_false_iff_not, pz_0, Bool.not_eq_false] at k3
                exact htake (tk (by simp [k2, k3]))
end NM
