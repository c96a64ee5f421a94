/-! ===== both sides: the questions ===== -/
def a_fld (rs : List ty_rw) (p : Int32) (g : ty_rw → Int32) (d : Int32) : Int32 := match ar_get rs p with
  | some r => g r
  | none => d
section QA
variable {L n b sn sx : Nat} {pi pn px : Nat → Nat} {S : ty_st} {H : ty_hd} {rs : List ty_rw} {hs ms : List Int32} {f w : Int32} {I : Nat → Nat → Int32} {R : Nat → Nat → Option Nat}
theorem cs_rep.fld (h : cs_rep b pi S I R) (p d : Int32) {j : Nat} {g : ty_rw → Int32} (hg : ∀ a, I a j = g (rw_at I a)) : c_fld I b pi S.1.length p j d = a_fld S.1 p g d := by
  unfold c_fld a_fld
  rw [h.fnd]
  cases hf : ar_fi S.1 p with
  | none => rw [ar_fi_getN hf]
  | some i =>
    obtain ⟨r, hr, -⟩ := ar_fi_some hf
    rw [← ar_fi_get hf, hr]
    have := h.2.2.2.2.1 i r hr
    simp only
    rw [← this, ← hg]
theorem md_rep.fld {a : Nat} {g : ty_rw → Int32} (h : md_rep 0 (rs, S.2) I) (hr : m_rel n S H f rs hs) (p : Int32) (hg : ∀ k r, mr_at I k r → I a k = g r) : mm_fld I a rs.length p = a_fld S.1 p g (-1) := by
  unfold mm_fld a_fld
  have hf := h.fnd hr.ndT p
  rw [Nat.mul_zero] at hf
  dsimp only at hf
  rw [hf, ← ar_get_perm hr.1 hr.nd]
  cases hg2 : ar_fi rs p with
  | none => rw [ar_fi_getN hg2]
  | some j =>
    obtain ⟨r, hjr, -⟩ := ar_fi_some hg2
    rw [← ar_fi_get hg2, hjr]
    have := h.2.2.2.1 j r hjr
    rw [Nat.mul_zero, Nat.zero_add] at this
    exact hg j r this
/-- kind -/
theorem q_kind (h : c_all sn sx pn px S H f w ms I R) (hm : m_all (rs, S.2) hs f w ms I) (hr : m_rel n S H f rs hs) (p : Int32) : (if mm_fol I (mx_fo rs) rs.length p = true then (2 : Int32) else if mm_has I rs.length p = true then 1 else 0) = c_fld I sn pn S.1.length p 1 0 := by
  rw [h.2.2.1.fld (g := fun r => r.2.1) p 0 (fun a => rfl)]
  have e1 := hm.1.fol hr.ndT p
  dsimp only at e1
  have hf := hm.1.fnd hr.ndT p
  rw [Nat.mul_zero] at hf
  dsimp only at hf
  rw [e1, a_coll_perm hr.1 hr.nd]
  unfold mm_has
  rw [hf, ar_fi_has, ar_has_perm hr.1, ar_has_get]
  unfold a_coll a_fld
  cases hg : ar_get S.1 p with
  | none => simp
  | some r =>
    obtain ⟨hr1, -⟩ := (ar_get_iff hr.nd).mp hg
    rcases (hr.2.1.1.2.2.1 r hr1).2 with e | e <;> simp [e]
theorem q_body (h : c_all sn sx pn px S H f w ms I R) (hm : m_all (rs, S.2) hs f w ms I) (hr : m_rel n S H f rs hs) (p : Int32) : mm_fld I 90 rs.length p = c_fld I sn pn S.1.length p 2 (-1) := by
  rw [h.2.2.1.fld (g := fun r => r.2.2.1) p (-1) (fun a => rfl), hm.1.fld hr p (g := fun r => r.2.2.1) (fun k r hk => hk.2.2.1)]
theorem q_stamp (h : c_all sn sx pn px S H f w ms I R) (hm : m_all (rs, S.2) hs f w ms I) (hr : m_rel n S H f rs hs) (p : Int32) : mm_fld I 91 rs.length p = c_fld I sn pn S.1.length p 3 (-1) := by
  rw [h.2.2.1.fld (g := fun r => r.2.2.2.1) p (-1) (fun a => rfl), hm.1.fld hr p (g := fun r => r.2.2.2.1) (fun k r hk => hk.2.2.2.1)]
theorem pf_from_02' (k : Int32) : pf_from k 0 2 = true ↔ k = 0 ∨ k = 1 ∨ k = 2 := by
  constructor
  · exact pf_from_02
  · rintro (rfl | rfl | rfl) <;> decide
theorem q_prop (h : c_all sn sx pn px S H f w ms I R) (hm : m_all (rs, S.2) hs f w ms I) (hr : m_rel n S H f rs hs) (p k : Int32) : mm_prp I rs.length p k = c_prp I sn pn S.1.length p k := by
  unfold mm_prp c_prp
  have hf := hm.1.fnd hr.ndT p
  rw [Nat.mul_zero] at hf
  dsimp only at hf
  rw [hf, h.2.2.1.fnd]
  have hget := ar_get_perm hr.1 hr.nd p
  cases hg : ar_fi rs p with
  | none =>
    rw [ar_fi_getN hg] at hget
    cases hg2 : ar_fi S.1 p with
    | none => rfl
    | some i =>
      obtain ⟨r, hr2, -⟩ := ar_fi_some hg2
      rw [← ar_fi_get hg2, hr2] at hget
      cases hget
  | some j =>
    obtain ⟨r, hjr, -⟩ := ar_fi_some hg
    rw [← ar_fi_get hg, hjr] at hget
    cases hg2 : ar_fi S.1 p with
    | none => rw [ar_fi_getN hg2] at hget; cases hget
    | some i =>
      obtain ⟨r2, hr2, -⟩ := ar_fi_some hg2
      rw [← ar_fi_get hg2, hr2, Option.some.injEq] at hget
      subst hget
      have hc := h.2.2.1.2.2.2.2.1 i r hr2
      have hk := hm.1.2.2.2.1 j r hjr
      rw [Nat.mul_zero, Nat.zero_add] at hk
      obtain ⟨-, -, -, -, k4, k5, k6⟩ := hk
      have e : rw_at I (cs_row sn pn i) = r := hc
      by_cases h02 : pf_from k 0 2 = true
      · rcases pf_from_02 h02 with rfl | rfl | rfl
        · simp only [show ¬ ((0 : Int32) < 0) from by decide, show ((0 : Int32) ≤ 2) from by decide, if_false, if_true, show (0 : Int32).toNatClampNeg = 0 from rfl, Nat.add_zero, k4, h02]
          rw [← e]; rfl
        · simp only [show ¬ ((1 : Int32) < 0) from by decide, show ((1 : Int32) ≤ 2) from by decide, if_false, if_true, show (1 : Int32).toNatClampNeg = 1 from rfl, k5, h02]
          rw [← e]; rfl
        · simp only [show ¬ ((2 : Int32) < 0) from by decide, show ((2 : Int32) ≤ 2) from by decide, if_false, if_true, show (2 : Int32).toNatClampNeg = 2 from rfl, k6, h02]
          rw [← e]; rfl
      · have h02' := h02
        rw [pf_from_gt] at h02'
        simp only [Bool.and_eq_true, Bool.not_eq_true', decide_eq_false_iff_not, decide_eq_true_eq, not_and] at h02'
        simp only [h02, if_false]
        by_cases hk0 : k < 0
        · simp [hk0]
        · simp [hk0, h02' hk0]
end QA
