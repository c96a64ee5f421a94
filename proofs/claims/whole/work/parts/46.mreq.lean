/-! ===== the model: requests, what they have in common ===== -/
/-- the model's rows are the class's, in another order; header, failure -/
def m_rel (n : Nat) (S : ty_st) (H : ty_hd) (f : Int32) (rs : List ty_rw) (hs : List Int32) : Prop :=
  rs.Perm S.1 ∧ wf_st n S ∧ (∃ z, H = hd_at z hs hs.length) ∧ (∀ c ∈ hs, pf_named c = true) ∧ (f = -1 ∨ ¬ f < 0)
/-- an outcome, on the model's side -/
def mo_post (L : Nat) (I0 : Nat → Nat → Int32) (R : Nat → Nat → Option Nat) (o : ty_oc) (r : Option Value × mj_H) : Prop :=
  ∃ I' rs, r = (some (.int o.1), (mz_SH L, I', R)) ∧ fr_M I0 I' ∧ m_all (rs, o.2.1.2) [] (-1) o.2.2.1 o.2.2.2 I' ∧ rs.Perm o.2.1.1
theorem a_cnd_perm {rs qs : List ty_rw} (hp : rs.Perm qs) (hn : ar_nd qs) (ls : List ty_lk) (p : Int32) : a_cnd rs ls p = a_cnd qs ls p := by
  funext c
  unfold a_cnd
  rw [ar_get_perm hp hn]
theorem a_fstR_perm {rs qs : List ty_rw} (hp : rs.Perm qs) (hn : ar_nd qs) (ls : List ty_lk) (H : ty_hd) (p : Int32) (ok : Bool) : a_fstR rs ls H p ok = a_fstR qs ls H p ok := by
  unfold a_fstR
  rw [a_cnd_perm hp hn]
theorem md_dif_perm {T S U V : ty_st} (h1 : T.1.Perm S.1) (h2 : T.2 = S.2) (h3 : U.1.Perm V.1) (h4 : U.2 = V.2) (hn : ar_nd V.1) : md_dif T U = md_dif S V := by
  unfold md_dif
  have e1 : T.1.countP (md_chr U.1) = S.1.countP (md_chr V.1) := by
    rw [h1.countP_eq]
    congr 1
    funext q
    unfold md_chr
    rw [ar_get_perm h3 hn]
  have e2 : U.1.countP (a_gor T.1) = V.1.countP (a_gor S.1) := by
    rw [h3.countP_eq]
    congr 1
    funext q
    unfold a_gor
    rw [ar_has_perm h1]
  rw [e1, e2, h2, h4]
section NB
variable {L n : Nat} {S Sx : ty_st} {H : ty_hd} {rs : List ty_rw} {U : ty_st} {ts hs ms : List Int32} {f w : Int32} {I I' I0 : Nat → Nat → Int32} {R : Nat → Nat → Option Nat} {Q : Option Value × mj_H → Prop} {z : Int32 × Int32}
theorem m_rel.nd (h : m_rel n S H f rs hs) : ar_nd S.1 := h.2.1.1.1.nd
theorem m_rel.ndT (h : m_rel n S H f rs hs) : ar_nd rs := h.nd.perm h.1.symm
theorem m_rel.ndL (h : m_rel n S H f rs hs) : al_nd S.2.1 := al_sorted_nd h.2.1.2.1.1
theorem m_rel.len (h : m_rel n S H f rs hs) : rs.length = S.1.length := h.1.length_eq
theorem m_rel.kind (h : m_rel n S H f rs hs) : ∀ r ∈ rs, r.2.1 = 1 ∨ r.2.1 = 2 := fun r hr => (h.2.1.1.2.2.1 r (h.1.mem_iff.mp hr)).2
/-- the place of a row is negative: there is none -/
theorem m_neg {s : Nat} {qs : List ty_rw} (hs : s = 0 ∨ s = 1) (hl : qs.length ≤ 13) (hp : qs.Perm S.1) (p : Int32) : (mv_ix (20 * s) (ar_fi qs p) < 0) ↔ ar_has S.1 p = false := by
  rw [← ar_has_perm hp, ← ar_fi_has]
  cases hf : ar_fi qs p with
  | none => simp [mv_ix]
  | some j =>
    obtain ⟨r, hr, -⟩ := ar_fi_some hf
    have hjl := (List.getElem?_eq_some_iff.mp hr).1
    simp only [mv_ix, Option.isSome_some]
    constructor
    · intro h
      rw [show (0 : Int32) = nI 0 from rfl, nI_lt_iff (by omega) (by omega)] at h
      omega
    · intro h; cases h
theorem m_pos {s : Nat} {qs : List ty_rw} (hs : s = 0 ∨ s = 1) (hl : qs.length ≤ 13) (hp : qs.Perm S.1) (p : Int32) : (0 ≤ mv_ix (20 * s) (ar_fi qs p)) ↔ ar_has S.1 p = true := by
  have := m_neg hs hl hp p
  rw [← Bool.not_eq_false, ← this, Int32.lt_iff_toInt_lt, Int32.le_iff_toInt_le]
  omega
/-- open -/
theorem g93S (p : Int32) (ok : Bool) (hm : mm_ok R) (h : m_all (rs, S.2) hs f w ms I) (hr : m_rel n S H f rs hs) :
    mj_G pj_P 93 [.ref 87, .int (pz ok), .int p] (mz_SH L, I, R) (fun r => ∃ I1, r = (some (.int (if a_fstR S.1 S.2.1 H p ok = -1 then 0 else a_fstR S.1 S.2.1 H p ok)), (mz_SH L, I1, R)) ∧ fr_M I I1 ∧ m_all (rs, S.2) [] (-1) w [] I1 ∧ I1 87 19 = f ∧ (a_fstR S.1 S.2.1 H p ok = -1 → md_rep 1 (rs, S.2) I1 ∧ ∃ ts, sb_rep ts I1 ∧ sb_of ts = a_sub H.1)) := by
  obtain ⟨hp, hw, ⟨z, hH⟩, hnm, -⟩ := hr
  have hn : ar_nd S.1 := hw.1.1.nd
  refine (g93 (z := z) p ok hm h (hn.perm hp.symm) (al_sorted_nd hw.2.1.1) hnm).mono ?_
  rintro r ⟨I', h1, h2, h3, h4, h5⟩
  rw [← hH] at h1 h5
  unfold m_opn at h1
  dsimp only at h1 h5
  rw [a_fstR_perm hp hn] at h1 h5
  exact ⟨I', h1, h2, h3, h4, fun e => ⟨(h5 e).1, _, (h5 e).2, by funext t; exact tsof_sub _ _⟩⟩
theorem a_fst_cases (S : ty_st) (H : ty_hd) (p : Int32) (ok : Bool) : a_fstR S.1 S.2.1 H p ok = -1 ∨ a_fstR S.1 S.2.1 H p ok = 400 ∨ a_fstR S.1 S.2.1 H p ok = 412 := by
  unfold a_fstR
  split
  · exact Or.inr (Or.inl rfl)
  · split
    · exact Or.inl rfl
    · exact Or.inr (Or.inr rfl)
/-- a refusal -/
theorem mo_ref {c : Int32} (hr : m_rel n S H f rs hs) (h : m_all (rs, S.2) [] (-1) w [] I') (hf : fr_M I I') (hc : c ≠ 207) : mo_post L I R (o_ref S w ms c) (some (.int c), (mz_SH L, I', R)) := by
  refine ⟨I', rs, rfl, hf, ?_, hr.1⟩
  unfold o_ref a_ms
  rw [if_neg hc]
  exact h
/-- a request carried out -/
theorem mo_car {st : Int32} (hr : m_rel n S H f rs hs) (hx : ar_nd Sx.1) (hxl : al_nd Sx.2.1) (hU : U.1.Perm Sx.1) (hUl : (m_fin U).2 = (a_fin Sx).2) (hst : st ≠ 207) {r : Option Value × mj_H} (h : cl_post L (rs, S.2) U f w st I R r) : mo_post L I R (o_car S f w ms Sx st) r := by
  have hk : md_dif (rs, S.2) (m_fin U) = a_chg (a_fin Sx) S := by
    rw [md_dif_perm (T := (rs, S.2)) (S := S) (U := m_fin U) (V := a_fin Sx) hr.1 rfl hU hUl hx]
    exact md_dif_eq hx hr.nd (List.Pairwise.sublist List.filter_sublist hxl) hr.ndL
  obtain ⟨I1, h1, h2, h3, -⟩ := h
  rw [hk] at h1 h3
  have hms : a_ms (if a_int f (a_chg (a_fin Sx) S) = true then 0 else st) ms = [] := by
    unfold a_ms
    rw [if_neg]
    split
    · decide
    · exact hst
  refine ⟨I1, if a_cmt f (a_chg (a_fin Sx) S) = true then U.1 else rs, h1, h2, ?_, ?_⟩
  · unfold o_car
    rw [hms]
    have e : (if a_cmt f (a_chg (a_fin Sx) S) = true then m_fin U else (rs, S.2)) = (if a_cmt f (a_chg (a_fin Sx) S) = true then U.1 else rs, (if a_cmt f (a_chg (a_fin Sx) S) = true then a_fin Sx else S).2) := by
      split
      · rw [← hUl]; rfl
      · rfl
    rw [e] at h3
    exact h3
  · unfold o_car
    split
    · exact hU
    · exact hr.1
/-- close, in the class's words -/
theorem g108S {I1 : Nat → Nat → Int32} {st : Int32} (hm : mm_ok R) (hr : m_rel n S H f rs hs) (h : m_all (rs, S.2) [] (-1) w [] I1) (hf : fr_M I I1) (hb : I1 87 19 = f) (hu : md_rep 1 U I1) (hx : wf_pre n Sx) (hU : U.1.Perm Sx.1) (hUl : (m_fin U).2 = (a_fin Sx).2) (hst : st ≠ 207) :
    mj_G pj_P 108 [.ref 87, .int st] (mz_SH L, I1, R) (mo_post L I R (o_car S f w ms Sx st)) := by
  have hxn := hx.1.1.nd
  refine (g108 st hm h hu hb hr.2.2.2.2 hr.ndT (hxn.perm hU.symm) hr.kind (fun r hr2 => (hx.1.2.2.1 r (hU.mem_iff.mp hr2)).2)).mono ?_
  intro r h2
  obtain ⟨I2, rs2, h3, h4, h5⟩ := mo_car (ms := ms) hr hxn (al_sorted_nd hx.2.1.1) hU hUl hst h2
  exact ⟨I2, rs2, h3, hf.trans h4, h5⟩
/-- the dead locks, where all live on -/
theorem fin_same (hU : U.1.Perm Sx.1) (h2 : U.2 = Sx.2) (hl : ∀ l ∈ Sx.2.1, Sx.2.2.1 < l.2.2.1) : (m_fin U).2 = (a_fin Sx).2 := by
  unfold m_fin a_fin
  dsimp only
  rw [h2]
  congr 1
  refine List.filter_congr (fun l hl2 => ?_)
  unfold al_live
  rw [ar_has_perm hU]
  have := hl l hl2
  have h3 : ¬ l.2.2.1 ≤ Sx.2.2.1 := by
    rw [Int32.lt_iff_toInt_lt] at this
    rw [Int32.le_iff_toInt_le]
    omega
  simp [h3]
theorem m_rel.live (hr : m_rel n S H f rs hs) : ∀ l ∈ S.2.1, S.2.2.1 < l.2.2.1 := fun l hl => (hr.2.1.2.1.2.2 l hl).2.2.1
end NB
