/-! ===== the class: the header takes a character ===== -/
/-- nothing but the header's cells has changed -/
def fr_H (I I' : Nat → Nat → Int32) : Prop := ∀ x j, (x < 72 ∨ 85 < x) → I' x j = I x j
theorem fr_H.refl {I : Nat → Nat → Int32} : fr_H I I := fun _ _ _ => rfl
theorem fr_H.trans {I J K : Nat → Nat → Int32} (h : fr_H I J) (h2 : fr_H J K) : fr_H I K := fun x j q => (h2 x j q).trans (h x j q)
theorem fr_H.u {I : Nat → Nat → Int32} {a j : Nat} {v : Int32} (ha : 72 ≤ a) (hb : a ≤ 85) : fr_H I (mj_u I a j v) := fun x _ q => mj_u_na _ _ _ _ (by omega)
theorem cd_at_eq {I I' : Nat → Nat → Int32} {a : Nat} {c : ty_cd} (h : ∀ j, I' a j = I a j) (hc : cd_at I a c) : cd_at I' a c := by
  simp only [cd_at, h] at hc ⊢
  exact hc
section HX
variable {L : Nat} {H : ty_hd} {I : Nat → Nat → Int32} {R : Nat → Nat → Option Nat}
theorem hd_rep.f2 (h : hd_rep H I R) (v : Int32) : hd_rep (H.1, v, H.2.2) (mj_u I 72 2 v) R := by
  obtain ⟨a, ⟨b1, b2⟩, c, d1, ⟨d2, d3⟩, d4, d5, d6, d7⟩ := h
  exact ⟨a, ⟨by simp [mj_u, b1], b2⟩, fun i q hi => cd_at_eq (fun j => mj_u_na _ _ _ _ (by omega)) (c i q hi), by simp [mj_u], ⟨by simp [mj_u, d2], d3⟩, by simp [mj_u, d4], by simp [mj_u, d5], by simp [mj_u, d6], by simp [mj_u, d7]⟩
theorem hd_rep.f3 (h : hd_rep H I R) {n : Nat} (hn : n ≤ 24) : hd_rep (H.1, H.2.1, n, H.2.2.2) (mj_u I 72 3 (nI n)) R := by
  obtain ⟨a, ⟨b1, b2⟩, c, d1, ⟨d2, d3⟩, d4, d5, d6, d7⟩ := h
  exact ⟨a, ⟨by simp [mj_u, b1], b2⟩, fun i q hi => cd_at_eq (fun j => mj_u_na _ _ _ _ (by omega)) (c i q hi), by simp [mj_u, d1], ⟨by simp [mj_u], hn⟩, by simp [mj_u, d4], by simp [mj_u, d5], by simp [mj_u, d6], by simp [mj_u, d7]⟩
theorem hd_rep.f4 (h : hd_rep H I R) (v : Int32) : hd_rep (hd_st H v) (mj_u I 72 4 v) R := by
  obtain ⟨a, ⟨b1, b2⟩, c, d1, ⟨d2, d3⟩, d4, d5, d6, d7⟩ := h
  exact ⟨a, ⟨by simp [mj_u, b1, hd_st], b2⟩, fun i q hi => cd_at_eq (fun j => mj_u_na _ _ _ _ (by omega)) (c i q hi), by simp [mj_u, d1, hd_st], ⟨by simp [mj_u, d2, hd_st], d3⟩, by simp [mj_u, hd_st], by simp [mj_u, d5, hd_st], by simp [mj_u, d6, hd_st], by simp [mj_u, d7, hd_st]⟩
theorem hd_rep.f5 (h : hd_rep H I R) (v : Int32) : hd_rep (H.1, H.2.1, H.2.2.1, H.2.2.2.1, v, H.2.2.2.2.2) (mj_u I 72 5 v) R := by
  obtain ⟨a, ⟨b1, b2⟩, c, d1, ⟨d2, d3⟩, d4, d5, d6, d7⟩ := h
  exact ⟨a, ⟨by simp [mj_u, b1], b2⟩, fun i q hi => cd_at_eq (fun j => mj_u_na _ _ _ _ (by omega)) (c i q hi), by simp [mj_u, d1], ⟨by simp [mj_u, d2], d3⟩, by simp [mj_u, d4], by simp [mj_u], by simp [mj_u, d6], by simp [mj_u, d7]⟩
theorem hd_rep.f6 (h : hd_rep H I R) (v : Int32) : hd_rep (H.1, H.2.1, H.2.2.1, H.2.2.2.1, H.2.2.2.2.1, v, H.2.2.2.2.2.2) (mj_u I 72 6 v) R := by
  obtain ⟨a, ⟨b1, b2⟩, c, d1, ⟨d2, d3⟩, d4, d5, d6, d7⟩ := h
  exact ⟨a, ⟨by simp [mj_u, b1], b2⟩, fun i q hi => cd_at_eq (fun j => mj_u_na _ _ _ _ (by omega)) (c i q hi), by simp [mj_u, d1], ⟨by simp [mj_u, d2], d3⟩, by simp [mj_u, d4], by simp [mj_u, d5], by simp [mj_u], by simp [mj_u, d7]⟩
theorem hd_rep.f7 (h : hd_rep H I R) (v : Int32) : hd_rep (H.1, H.2.1, H.2.2.1, H.2.2.2.1, H.2.2.2.2.1, H.2.2.2.2.2.1, v) (mj_u I 72 7 v) R := by
  obtain ⟨a, ⟨b1, b2⟩, c, d1, ⟨d2, d3⟩, d4, d5, d6, d7⟩ := h
  exact ⟨a, ⟨by simp [mj_u, b1], b2⟩, fun i q hi => cd_at_eq (fun j => mj_u_na _ _ _ _ (by omega)) (c i q hi), by simp [mj_u, d1], ⟨by simp [mj_u, d2], d3⟩, by simp [mj_u, d4], by simp [mj_u, d5], by simp [mj_u, d6], by simp [mj_u]⟩
theorem cd_lst_get (v : Int32) : ∀ (cs : List ty_cd) (i : Nat), (cd_lst v cs)[i]? = if i + 1 = cs.length then (cs[i]?).map (fun c => (c.1, c.2.1, c.2.2.1, c.2.2.2.1, v)) else cs[i]? := by
  intro cs
  induction cs with
  | nil => intro i; simp [cd_lst]
  | cons c cs ih =>
    intro i
    cases cs with
    | nil =>
      cases i with
      | zero => simp [cd_lst]
      | succ i => simp [cd_lst]
    | cons d cs =>
      cases i with
      | zero => simp [cd_lst]
      | succ i =>
        simp only [cd_lst, List.getElem?_cons_succ, ih i, List.length_cons, Nat.add_right_cancel_iff]
/-- the last condition's number changes -/
theorem hd_rep.lst {m : Nat} (h : hd_rep H I R) (hm : H.1.length = m + 1) (v : Int32) : hd_rep (cd_lst v H.1, H.2) (mj_u I (74 + m) 4 v) R := by
  obtain ⟨a, ⟨b1, b2⟩, c, d1, ⟨d2, d3⟩, d4, d5, d6, d7⟩ := h
  have hne : ¬ 72 = 74 + m := by omega
  refine ⟨a, ⟨by rw [mj_u_na _ _ _ _ hne]; simp [cd_lst_len, b1], by simp [cd_lst_len, b2]⟩, ?_, by rw [mj_u_na _ _ _ _ hne]; exact d1, ⟨by rw [mj_u_na _ _ _ _ hne]; exact d2, d3⟩, by rw [mj_u_na _ _ _ _ hne]; exact d4, by rw [mj_u_na _ _ _ _ hne]; exact d5, by rw [mj_u_na _ _ _ _ hne]; exact d6, by rw [mj_u_na _ _ _ _ hne]; exact d7⟩
  intro i q hi
  dsimp only at hi
  rw [cd_lst_get] at hi
  split at hi
  · rename_i e
    have him : i = m := by omega
    subst him
    obtain ⟨c0, hc0, rfl⟩ := Option.map_eq_some_iff.mp hi
    obtain ⟨e0, e1, e2, e3, e4⟩ := c i c0 hc0
    exact ⟨by simp [mj_u, e0], by simp [mj_u, e1], by simp [mj_u, e2], by simp [mj_u, e3], by simp [mj_u]⟩
  · rename_i e
    have hl := (List.getElem?_eq_some_iff.mp hi).1
    exact cd_at_eq (fun j => mj_u_na _ _ _ _ (by omega)) (c i q hi)
/-- a condition is added -/
theorem hd_rep.add (h : hd_rep H I R) (hl : H.1.length < 12) (c0 : ty_cd) : hd_rep (H.1 ++ [c0], H.2) (mj_u (mj_u (mj_u (mj_u (mj_u (mj_u I 72 1 (nI (H.1.length + 1))) (74 + H.1.length) 0 c0.1) (74 + H.1.length) 1 c0.2.1) (74 + H.1.length) 2 (pz c0.2.2.1)) (74 + H.1.length) 3 (pz c0.2.2.2.1)) (74 + H.1.length) 4 c0.2.2.2.2) R := by
  obtain ⟨a, ⟨b1, b2⟩, c, d1, ⟨d2, d3⟩, d4, d5, d6, d7⟩ := h
  have hne : ¬ 72 = 74 + H.1.length := by omega
  refine ⟨a, ⟨by simp [mj_u, hne], by simp; omega⟩, ?_, by simp [mj_u, hne, d1], ⟨by simp [mj_u, hne, d2], d3⟩, by simp [mj_u, hne, d4], by simp [mj_u, hne, d5], by simp [mj_u, hne, d6], by simp [mj_u, hne, d7]⟩
  intro i q hi
  dsimp only at hi
  rw [List.getElem?_append] at hi
  split at hi
  · rename_i hlt
    refine cd_at_eq (I := I) (fun j => ?_) (c i q hi)
    have e1 : ¬ i = H.1.length := by omega
    have e2 : ¬ 74 + i = 72 := by omega
    simp [mj_u, e1, e2]
  · rename_i hlt
    have hl2 := (List.getElem?_eq_some_iff.mp hi).1
    simp only [List.length_cons, List.length_nil] at hl2
    have e : i = H.1.length := by omega
    subst e
    simp only [Nat.sub_self, List.getElem?_cons_zero, Option.some.injEq] at hi
    subst hi
    exact ⟨by simp [mj_u], by simp [mj_u], by simp [mj_u], by simp [mj_u], by simp [mj_u]⟩
/-- what the steps of the header answer: the new state, not yet put down -/
def hx_post (L : Nat) (I0 : Nat → Nat → Int32) (R : Nat → Nat → Option Nat) (H G : ty_hd) (r : Option Value × mj_H) : Prop := ∃ I', r = (some (.int G.2.2.2.1), (mz_SH L, I', R)) ∧ hd_rep (hd_st G H.2.2.2.1) I' R ∧ fr_H I0 I'
theorem hx_same (h : hd_rep H I R) (s : Int32) : hx_post L I R H (hd_st H s) (some (.int s), (mz_SH L, I, R)) := ⟨I, rfl, h, fr_H.refl⟩
set_option maxHeartbeats 1000000 in
/-- Header.afterSlash -/
theorem g12 (h : hd_rep H I R) : mj_G pj_P 12 [.ref 72] (mz_SH L, I, R) (hx_post L I R H (hd_sla H)) := by
  have hS := sh_72 L
  obtain ⟨d4, d5, -⟩ := h.2.2.2.2.2
  have e : ∀ s, s = (if H.2.2.2.1 = 0 ∨ (H.2.2.2.1 = 7 ∧ H.2.2.2.2.1 ≠ -1) then (1 : Int32) else 8) → ∀ Lc, mj_T pj_P 12 40 Lc [.int s] (mz_SH L, I, R) (hx_post L I R H (hd_sla H)) := by
    intro s hs Lc
    refine mj_b_retI (hE := fe_12_40) (hi := in_12) ?_
    unfold hd_sla
    rw [← hs]
    exact hx_same h s
  refine mj_enter in_12 (L := [.ref 72, .retAddr 0]) rfl ?_
  refine mj_b_rload_n (hE := fe_12_0) (hv := rfl) (k := ?_)
  refine mj_b_getV (hE := fe_12_1) (hM := by assumption) (hv := by assumption) (k := ?_)
  refine mj_b_bipush (hE := fe_12_4) (k := ?_)
  refine mj_b_if2 (hE := fe_12_6) (kt := fun h6 => ?_) (kf := fun h6 => ?_)
  · simp only [mj_cnd, decide_eq_true_eq, decide_eq_false_iff_not, Bool.not_eq_true', Bool.not_eq_false', pz_0, Bool.not_eq_false, Bool.not_eq_true] at h6
    refine mj_b_iconst (hE := fe_12_21) (k := ?_)
    refine mj_b_istore_n (hE := fe_12_22) (hx := Nat.le_of_ble_eq_true rfl) (k := ?_)
    refine mj_b_rload_n (hE := fe_12_23) (hv := rfl) (k := ?_)
    refine mj_b_getV (hE := fe_12_24) (hM := by assumption) (hv := by assumption) (k := ?_)
    refine mj_b_if1 (hE := fe_12_27) (kt := fun h27 => ?_) (kf := fun h27 => ?_)
    · simp only [mj_cnd, decide_eq_true_eq, decide_eq_false_iff_not, Bool.not_eq_true', Bool.not_eq_false', pz_0, Bool.not_eq_false, Bool.not_eq_true] at h27
      refine mj_b_iconst (hE := fe_12_34) (k := ?_)
      refine mj_b_goto (hE := fe_12_35) (k := ?_)
      exact e _ (by simp_all) _
    · simp only [mj_cnd, decide_eq_true_eq, decide_eq_false_iff_not, Bool.not_eq_true', Bool.not_eq_false', pz_0, Bool.not_eq_false, Bool.not_eq_true] at h27
      refine mj_b_iload_n (hE := fe_12_30) (hv := rfl) (k := ?_)
      refine mj_b_if1 (hE := fe_12_31) (kt := fun _ => ?_) (kf := fun h => absurd h (by decide +kernel))
      refine mj_b_bipush (hE := fe_12_38) (k := ?_)
      exact e _ (by simp_all) _
  · simp only [mj_cnd, decide_eq_true_eq, decide_eq_false_iff_not, Bool.not_eq_true', Bool.not_eq_false', pz_0, Bool.not_eq_false, Bool.not_eq_true] at h6
    refine mj_b_rload_n (hE := fe_12_9) (hv := rfl) (k := ?_)
    refine mj_b_getV (hE := fe_12_10) (hM := by assumption) (hv := by assumption) (k := ?_)
    refine mj_b_iconst (hE := fe_12_13) (k := ?_)
    refine mj_b_if2 (hE := fe_12_14) (kt := fun h14 => ?_) (kf := fun h14 => ?_)
    · simp only [mj_cnd, decide_eq_true_eq, decide_eq_false_iff_not, Bool.not_eq_true', Bool.not_eq_false', pz_0, Bool.not_eq_false, Bool.not_eq_true] at h14
      refine mj_b_iconst (hE := fe_12_21) (k := ?_)
      refine mj_b_istore_n (hE := fe_12_22) (hx := Nat.le_of_ble_eq_true rfl) (k := ?_)
      refine mj_b_rload_n (hE := fe_12_23) (hv := rfl) (k := ?_)
      refine mj_b_getV (hE := fe_12_24) (hM := by assumption) (hv := by assumption) (k := ?_)
      refine mj_b_if1 (hE := fe_12_27) (kt := fun h27 => ?_) (kf := fun h27 => ?_)
      · simp only [mj_cnd, decide_eq_true_eq, decide_eq_false_iff_not, Bool.not_eq_true', Bool.not_eq_false', pz_0, Bool.not_eq_false, Bool.not_eq_true] at h27
        refine mj_b_iconst (hE := fe_12_34) (k := ?_)
        refine mj_b_goto (hE := fe_12_35) (k := ?_)
        exact e _ (by simp_all) _
      · simp only [mj_cnd, decide_eq_true_eq, decide_eq_false_iff_not, Bool.not_eq_true', Bool.not_eq_false', pz_0, Bool.not_eq_false, Bool.not_eq_true] at h27
        refine mj_b_iload_n (hE := fe_12_30) (hv := rfl) (k := ?_)
        refine mj_b_if1 (hE := fe_12_31) (kt := fun _ => ?_) (kf := fun h => absurd h (by decide +kernel))
        refine mj_b_bipush (hE := fe_12_38) (k := ?_)
        exact e _ (by simp_all) _
    · simp only [mj_cnd, decide_eq_true_eq, decide_eq_false_iff_not, Bool.not_eq_true', Bool.not_eq_false', pz_0, Bool.not_eq_false, Bool.not_eq_true] at h14
      refine mj_b_iconst (hE := fe_12_17) (k := ?_)
      refine mj_b_goto (hE := fe_12_18) (k := ?_)
      refine mj_b_istore_n (hE := fe_12_22) (hx := Nat.le_of_ble_eq_true rfl) (k := ?_)
      refine mj_b_rload_n (hE := fe_12_23) (hv := rfl) (k := ?_)
      refine mj_b_getV (hE := fe_12_24) (hM := by assumption) (hv := by assumption) (k := ?_)
      refine mj_b_if1 (hE := fe_12_27) (kt := fun h27 => ?_) (kf := fun h27 => ?_)
      · simp only [mj_cnd, decide_eq_true_eq, decide_eq_false_iff_not, Bool.not_eq_true', Bool.not_eq_false', pz_0, Bool.not_eq_false, Bool.not_eq_true] at h27
        refine mj_b_iconst (hE := fe_12_34) (k := ?_)
        refine mj_b_goto (hE := fe_12_35) (k := ?_)
        exact e _ (by simp_all) _
      · simp only [mj_cnd, decide_eq_true_eq, decide_eq_false_iff_not, Bool.not_eq_true', Bool.not_eq_false', pz_0, Bool.not_eq_false, Bool.not_eq_true] at h27
        refine mj_b_iload_n (hE := fe_12_30) (hv := rfl) (k := ?_)
        refine mj_b_if1 (hE := fe_12_31) (kt := fun h => absurd h (by decide +kernel)) (kf := fun _ => ?_)
        refine mj_b_iconst (hE := fe_12_34) (k := ?_)
        refine mj_b_goto (hE := fe_12_35) (k := ?_)
        exact e _ (by simp_all) _
set_option maxHeartbeats 1000000 in
/-- Header.afterOpening -/
theorem g13 (h : hd_rep H I R) : mj_G pj_P 13 [.ref 72] (mz_SH L, I, R) (hx_post L I R H (hd_opn H)) := by
  have hS := sh_72 L
  obtain ⟨d1, ⟨d2, d3⟩, d4, d5, d6, d7⟩ := h.2.2.2
  have e48 : ∀ (I1 : Nat → Nat → Int32) (G : ty_hd), hd_rep G I1 R → G.2.2.2.1 = H.2.2.2.1 → fr_H I I1 → hd_opn H = (G.1, G.2.1 + 1, G.2.2.1, 3, G.2.2.2.2) → mj_T pj_P 13 48 [.ref 72] [] (mz_SH L, I1, R) (hx_post L I R H (hd_opn H)) := by
    intro I1 G hG hst hf he
    have d1 := hG.2.2.2.1
    refine mj_b_rload_n (hE := fe_13_48) (hv := rfl) (k := ?_)
    refine mj_b_dup (hE := fe_13_49) (hv := rfl) (k := ?_)
    refine mj_b_getV (hE := fe_13_50) (hM := by assumption) (hv := by assumption) (k := ?_)
    refine mj_b_iconst (hE := fe_13_53) (k := ?_)
    refine mj_b_iadd (hE := fe_13_54) (k := ?_)
    refine mj_b_putI (hE := fe_13_55) (hw := Or.inl rfl) (hM := by assumption) (k := ?_)
    refine mj_b_iconst (hE := fe_13_58) (k := ?_)
    refine mj_b_retI (hE := fe_13_59) (hi := in_13) ?_
    rw [he]
    refine ⟨_, rfl, ?_, hf.trans (fr_H.u (by omega) (by omega))⟩
    have := hG.f2 (G.2.1 + 1)
    simp only [hd_st, ← hst]
    exact this
  have e29 : ¬ (H.2.2.2.1 = 2 ∧ pf_path H.2.2.2.2.2.1 = true) → mj_T pj_P 13 29 [.ref 72] [] (mz_SH L, I, R) (hx_post L I R H (hd_opn H)) := by
    intro hn
    refine mj_b_rload_n (hE := fe_13_29) (hv := rfl) (k := ?_)
    refine mj_b_getV (hE := fe_13_30) (hM := by assumption) (hv := by assumption) (k := ?_)
    refine mj_b_if1 (hE := fe_13_33) (kt := fun g => ?_) (kf := fun g => ?_)
    · simp only [mj_cnd, decide_eq_true_eq] at g
      exact e48 I H h rfl fr_H.refl (by unfold hd_opn; rw [if_neg hn, if_pos (Or.inl g)])
    · simp only [mj_cnd, decide_eq_false_iff_not] at g
      refine mj_b_rload_n (hE := fe_13_36) (hv := rfl) (k := ?_)
      refine mj_b_getV (hE := fe_13_37) (hM := by assumption) (hv := by assumption) (k := ?_)
      refine mj_b_bipush (hE := fe_13_40) (k := ?_)
      refine mj_b_if2 (hE := fe_13_42) (kt := fun q => ?_) (kf := fun q => ?_)
      · simp only [mj_cnd, decide_eq_true_eq] at q
        exact e48 I H h rfl fr_H.refl (by unfold hd_opn; rw [if_neg hn, if_pos (Or.inr q)])
      · simp only [mj_cnd, decide_eq_false_iff_not] at q
        refine mj_b_bipush (hE := fe_13_45) (k := ?_)
        refine mj_b_retI (hE := fe_13_47) (hi := in_13) ?_
        have : hd_opn H = hd_st H 8 := by unfold hd_opn; rw [if_neg hn, if_neg (by simp [g, q])]
        rw [this]
        exact hx_same h 8
  refine mj_enter in_13 (L := [.ref 72]) rfl ?_
  refine mj_b_rload_n (hE := fe_13_0) (hv := rfl) (k := ?_)
  refine mj_b_getV (hE := fe_13_1) (hM := by assumption) (hv := by assumption) (k := ?_)
  refine mj_b_iconst (hE := fe_13_4) (k := ?_)
  refine mj_b_if2 (hE := fe_13_5) (kt := fun g => ?_) (kf := fun g => ?_)
  · simp only [mj_cnd, Bool.not_eq_true', decide_eq_false_iff_not] at g
    exact e29 (fun hh => g hh.1)
  · simp only [mj_cnd, Bool.not_eq_false', decide_eq_true_eq] at g
    refine mj_b_rload_n (hE := fe_13_8) (hv := rfl) (k := ?_)
    refine mj_b_getV (hE := fe_13_9) (hM := by assumption) (hv := by assumption) (k := ?_)
    refine mj_b_callR (hE := fe_13_12) (hi := in_14) (h1 := g14 _ _) (hc := mj_cok_s rfl) (ha := rfl) (hr := rfl) ?_
    refine mj_b_if1 (hE := fe_13_15) (kt := fun q => ?_) (kf := fun q => ?_)
    · simp only [mj_cnd, decide_eq_true_eq, pz_0] at q
      exact e29 (fun hh => by rw [q] at hh; exact absurd hh.2 (by decide))
    · simp only [mj_cnd, decide_eq_false_iff_not, pz_0, Bool.not_eq_false] at q
      refine mj_b_rload_n (hE := fe_13_18) (hv := rfl) (k := ?_)
      refine mj_b_rload_n (hE := fe_13_19) (hv := rfl) (k := ?_)
      refine mj_b_getV (hE := fe_13_20) (hM := by assumption) (hv := by assumption) (k := ?_)
      refine mj_b_putI (hE := fe_13_23) (hw := Or.inl rfl) (hM := by assumption) (k := ?_)
      refine mj_b_goto (hE := fe_13_26) (k := ?_)
      exact e48 _ _ (h.f5 H.2.2.2.2.2.1) rfl (fr_H.u (by omega) (by omega)) (by unfold hd_opn; rw [if_pos ⟨g, q⟩])
set_option maxHeartbeats 1000000 in
/-- Header.afterLetter -/
theorem g15 (t : Bool) (h : hd_rep H I R) : mj_G pj_P 15 [.ref 72, .int (pz t)] (mz_SH L, I, R) (hx_post L I R H (hd_let H t)) := by
  have hS := sh_72 L
  have hA := sh_73 L
  have hh0 := h
  obtain ⟨⟨a1, a2⟩, ⟨b1, b2⟩, -, d1, ⟨d2, d3⟩, d4, d5, d6, d7⟩ := h
  have e28 : (H.2.2.2.1 = 3 ∨ H.2.2.2.1 = 6 ∨ H.2.2.2.1 = 4) → mj_T pj_P 15 28 [.ref 72, .int (pz t), .retAddr 0] [] (mz_SH L, I, R) (hx_post L I R H (hd_let H t)) := by
    intro hst
    refine mj_b_rload_n (hE := fe_15_28) (hv := rfl) (k := ?_)
    refine mj_b_getV (hE := fe_15_29) (hM := by assumption) (hv := by assumption) (k := ?_)
    refine mj_b_rload_n (hE := fe_15_32) (hv := rfl) (k := ?_)
    refine mj_b_getQ (hE := fe_15_33) (hM := by assumption) (hv := by assumption) (k := ?_)
    refine mj_b_len (hE := fe_15_36) (hM := hA) (ht := Or.inr (by decide)) (k := ?_)
    refine mj_b_if2 (hE := fe_15_37) (kt := fun g => ?_) (kf := fun g => ?_)
    · simp only [mj_cnd, decide_eq_true_eq] at g
      have hl : H.1.length < 12 := by
        rw [show Int32.ofNat 12 = nI 12 from rfl, nI_lt_iff (by omega) (by omega)] at g
        exact g
      have hq := a2 _ hl
      have hC := sh_C L hl
      have hne : ¬ 72 = 74 + H.1.length := by omega
      have e98 : ∀ ng : Bool, ng = decide (H.2.2.2.1 = 4) → mj_T pj_P 15 98 [.ref 72, .int (pz t), .ref (74 + H.1.length)] [.int (pz ng), .ref (74 + H.1.length)] (mz_SH L, mj_u (mj_u (mj_u (mj_u I 72 1 (nI H.1.length + 1)) (74 + H.1.length) 0 H.2.1) (74 + H.1.length) 1 H.2.2.2.2.1) (74 + H.1.length) 2 (pz t), R) (hx_post L I R H (hd_let H t)) := by
        intro ng hng
        refine mj_b_putI (hE := fe_15_98) (hw := Or.inr ⟨rfl, pz_01 _⟩) (hM := hC) (k := ?_)
        refine mj_b_rload_n (hE := fe_15_101) (hv := rfl) (k := ?_)
        refine mj_b_iconst (hE := fe_15_102) (k := ?_)
        refine mj_b_putI (hE := fe_15_103) (hw := Or.inl rfl) (hM := hC) (k := ?_)
        refine mj_b_iconst (hE := fe_15_106) (k := ?_)
        refine mj_b_retI (hE := fe_15_107) (hi := in_15) ?_
        have e1 : hd_let H t = (H.1 ++ [(H.2.1, H.2.2.2.2.1, t, ng, 0)], H.2.1, H.2.2.1, 5, H.2.2.2.2) := by unfold hd_let; rw [if_pos ⟨hst, hl⟩, hng]
        rw [e1]
        refine ⟨_, rfl, ?_, ?_⟩
        · have := hh0.add hl (H.2.1, H.2.2.2.2.1, t, ng, 0)
          rw [nI_succ] at this
          exact this
        · intro x j hx
          have x1 : ¬ x = 72 := by omega
          have x2 : ¬ x = 74 + H.1.length := by omega
          simp [mj_u, x1, x2]
      refine mj_b_rload_n (hE := fe_15_43) (hv := rfl) (k := ?_)
      refine mj_b_getQ (hE := fe_15_44) (hM := by assumption) (hv := by assumption) (k := ?_)
      refine mj_b_rload_n (hE := fe_15_47) (hv := rfl) (k := ?_)
      refine mj_b_getV (hE := fe_15_48) (hM := by assumption) (hv := by assumption) (k := ?_)
      refine mj_b_aaldQ (hE := fe_15_51) (hM := hA) (ht := by decide) (hj := rfl) (hc := hl) (hn := by decide) (hv := hq) (k := ?_)
      refine mj_b_rstore_n (hE := fe_15_52) (hx := Nat.le_of_ble_eq_true rfl) (k := ?_)
      refine mj_b_rload_n (hE := fe_15_53) (hv := rfl) (k := ?_)
      refine mj_b_dup (hE := fe_15_54) (hv := rfl) (k := ?_)
      refine mj_b_getV (hE := fe_15_55) (hM := by assumption) (hv := by assumption) (k := ?_)
      refine mj_b_iconst (hE := fe_15_58) (k := ?_)
      refine mj_b_iadd (hE := fe_15_59) (k := ?_)
      refine mj_b_putI (hE := fe_15_60) (hw := Or.inl rfl) (hM := by assumption) (k := ?_)
      refine mj_b_rload_n (hE := fe_15_63) (hv := rfl) (k := ?_)
      refine mj_b_rload_n (hE := fe_15_64) (hv := rfl) (k := ?_)
      refine mj_b_getV (hE := fe_15_65) (v := H.2.1) (hM := hS) (hv := by simp [mj_u, hne, d1]) (k := ?_)
      refine mj_b_putI (hE := fe_15_68) (hw := Or.inl rfl) (hM := hC) (k := ?_)
      refine mj_b_rload_n (hE := fe_15_71) (hv := rfl) (k := ?_)
      refine mj_b_rload_n (hE := fe_15_72) (hv := rfl) (k := ?_)
      refine mj_b_getV (hE := fe_15_73) (v := H.2.2.2.2.1) (hM := hS) (hv := by simp [mj_u, hne, d5]) (k := ?_)
      refine mj_b_putI (hE := fe_15_76) (hw := Or.inl rfl) (hM := hC) (k := ?_)
      refine mj_b_rload_n (hE := fe_15_79) (hv := rfl) (k := ?_)
      refine mj_b_iload_n (hE := fe_15_80) (hv := rfl) (k := ?_)
      refine mj_b_putI (hE := fe_15_81) (hw := Or.inr ⟨rfl, pz_01 _⟩) (hM := hC) (k := ?_)
      refine mj_b_rload_n (hE := fe_15_84) (hv := rfl) (k := ?_)
      refine mj_b_rload_n (hE := fe_15_85) (hv := rfl) (k := ?_)
      refine mj_b_getV (hE := fe_15_86) (v := H.2.2.2.1) (hM := hS) (hv := by simp [mj_u, hne, d4]) (k := ?_)
      refine mj_b_iconst (hE := fe_15_89) (k := ?_)
      refine mj_b_if2 (hE := fe_15_90) (kt := fun q => ?_) (kf := fun q => ?_)
      · simp only [mj_cnd, Bool.not_eq_true', decide_eq_false_iff_not] at q
        refine mj_b_iconst (hE := fe_15_97) (k := ?_)
        exact e98 false (by simp [q])
      · simp only [mj_cnd, Bool.not_eq_false', decide_eq_true_eq] at q
        refine mj_b_iconst (hE := fe_15_93) (k := ?_)
        refine mj_b_goto (hE := fe_15_94) (k := ?_)
        exact e98 true (by simp [q])
    · simp only [mj_cnd, decide_eq_false_iff_not] at g
      refine mj_b_bipush (hE := fe_15_40) (k := ?_)
      refine mj_b_retI (hE := fe_15_42) (hi := in_15) ?_
      have : hd_let H t = hd_st H 8 := by
        unfold hd_let
        rw [if_neg]
        rintro ⟨-, hl⟩
        refine g ?_
        rw [show Int32.ofNat 12 = nI 12 from rfl, nI_lt_iff (by omega) (by omega)]
        exact hl
      rw [this]
      exact hx_same hh0 8
  refine mj_enter in_15 (L := [.ref 72, .int (pz t), .retAddr 0]) rfl ?_
  refine mj_b_rload_n (hE := fe_15_0) (hv := rfl) (k := ?_)
  refine mj_b_getV (hE := fe_15_1) (hM := by assumption) (hv := by assumption) (k := ?_)
  refine mj_b_iconst (hE := fe_15_4) (k := ?_)
  refine mj_b_if2 (hE := fe_15_5) (kt := fun g => ?_) (kf := fun g => ?_)
  · simp only [mj_cnd, decide_eq_true_eq] at g
    exact e28 (Or.inl g)
  · simp only [mj_cnd, decide_eq_false_iff_not] at g
    refine mj_b_rload_n (hE := fe_15_8) (hv := rfl) (k := ?_)
    refine mj_b_getV (hE := fe_15_9) (hM := by assumption) (hv := by assumption) (k := ?_)
    refine mj_b_bipush (hE := fe_15_12) (k := ?_)
    refine mj_b_if2 (hE := fe_15_14) (kt := fun q => ?_) (kf := fun q => ?_)
    · simp only [mj_cnd, decide_eq_true_eq] at q
      exact e28 (Or.inr (Or.inl q))
    · simp only [mj_cnd, decide_eq_false_iff_not] at q
      refine mj_b_rload_n (hE := fe_15_17) (hv := rfl) (k := ?_)
      refine mj_b_getV (hE := fe_15_18) (hM := by assumption) (hv := by assumption) (k := ?_)
      refine mj_b_iconst (hE := fe_15_21) (k := ?_)
      refine mj_b_if2 (hE := fe_15_22) (kt := fun m => ?_) (kf := fun m => ?_)
      · simp only [mj_cnd, decide_eq_true_eq] at m
        exact e28 (Or.inr (Or.inr m))
      · simp only [mj_cnd, decide_eq_false_iff_not] at m
        refine mj_b_bipush (hE := fe_15_25) (k := ?_)
        refine mj_b_retI (hE := fe_15_27) (hi := in_15) ?_
        have : hd_let H t = hd_st H 8 := by unfold hd_let; rw [if_neg (by simp [g, q, m])]
        rw [this]
        exact hx_same hh0 8
end HX
