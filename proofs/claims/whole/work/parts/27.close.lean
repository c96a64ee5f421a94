/-! ===== the class: a request is closed ===== -/
/-- nothing but the class's cells has changed -/
def fr_C {α : Type} (I I' : Nat → Nat → α) : Prop := ∀ x j, (x = 0 ∨ 86 < x) → I' x j = I x j
theorem fr_C.refl {α : Type} {I : Nat → Nat → α} : fr_C I I := fun _ _ _ => rfl
theorem fr_C.trans {α : Type} {I J K : Nat → Nat → α} (h : fr_C I J) (h2 : fr_C J K) : fr_C I K := fun x j q => (h2 x j q).trans (h x j q)
theorem fr_C.u {α : Type} {I : Nat → Nat → α} {a j : Nat} {v : α} (ha : 1 ≤ a) (hb : a ≤ 86) : fr_C I (mj_u I a j v) := fun x _ q => mj_u_na _ _ _ _ (by omega)
theorem fr_I.C {b : Nat} {I I' : Nat → Nat → Int32} (hb : b = 2 ∨ b = 37) (h : fr_I b I I') : fr_C I I' := fun x j q => h x j (by omega)
theorem fr_R.C {b : Nat} {R R' : Nat → Nat → Option Nat} (hb : b = 2 ∨ b = 37) (h : fr_R b R R') : fr_C R R' := fun x j q => h x j (by omega)
def hd_clr (H : ty_hd) : ty_hd := ([], 0, 0, 0, -1, H.2.2.2.2.2)
def a_due (k : Int32) : Int32 := if k = 0 then 0 else 2 * k + 1
def a_int (f k : Int32) : Bool := !decide (f = -1) && !decide (a_due k ≤ f)
def a_cmt (f k : Int32) : Bool := !(a_int f k) || !decide (f ≤ k)
def a_wr (f k : Int32) : Int32 := if a_int f k = true then f else a_due k
def a_ms (a : Int32) (ms : List Int32) : List Int32 := if a = 207 then ms else []
section CL
variable {L sn sx : Nat} {pn px : Nat → Nat} {S Sx : ty_st} {H : ty_hd} {f w : Int32} {ms : List Int32} {I : Nat → Nat → Int32} {R : Nat → Nat → Option Nat}
set_option maxHeartbeats 1000000 in
/-- LockedTree.closeRequest -/
theorem g37' (a : Int32) (h : c_all sn sx pn px S H f w ms I R) :
    mj_G pj_P 37 [.ref 1, .int a] (mz_SH L, I, R) (fun r => ∃ I', r = (some (.int a), (mz_SH L, I', R)) ∧ c_all sn sx pn px S (hd_clr H) (-1) w (a_ms a ms) I' R ∧ fr_C I I') := by
  refine (g37 a h.1).mono ?_
  intro r hr
  obtain ⟨ht, hsx, hs, hok, hh, hf, hw, ⟨m1, m2⟩, m3⟩ := h
  refine ⟨_, hr, ?_, ?_⟩
  · have hoff : ∀ x j, x ≠ 72 → x ≠ 1 → c_cls I a x j = I x j := by
      intro x j h1 h2
      unfold c_cls ch_clr
      split <;> simp [mj_u, h1, h2]
    have hst : cs_rep sn pn S (c_cls I a) R := by
      obtain ⟨hb, hok2, ⟨n1, n2⟩, ⟨l1, l2⟩, hr, hk, k1, k2, k3⟩ := hs
      have hok3 := hok2.2.2.1
      refine ⟨hb, hok2, ⟨?_, n2⟩, ⟨?_, l2⟩, ?_, ?_, ?_, ?_, ?_⟩
      · rw [hoff _ _ (by omega) (by omega)]; exact n1
      · rw [hoff _ _ (by omega) (by omega)]; exact l1
      · intro i r hi
        have hl : i < S.1.length := (List.getElem?_eq_some_iff.mp hi).1
        have := (hok3 i (by omega)).2
        rw [rw_at_eq (I := I)]
        · exact hr i r hi
        · intro k; exact hoff _ _ (by unfold cs_row; omega) (by unfold cs_row; omega)
        · intro k; exact hoff _ _ (by unfold cs_row; omega) (by unfold cs_row; omega)
      · intro i l hi
        have hl : i < S.2.1.length := (List.getElem?_eq_some_iff.mp hi).1
        exact lk_at_eq (fun k => hoff _ _ (by omega) (by omega)) (hk i l hi)
      · rw [hoff _ _ (by omega) (by omega)]; exact k1
      · rw [hoff _ _ (by omega) (by omega)]; exact k2
      · rw [hoff _ _ (by omega) (by omega)]; exact k3
    refine ⟨ht, hsx, hst, hok, ⟨hh.1, ⟨?_, by simp [hd_clr]⟩, by simp [hd_clr], ?_, ⟨?_, by simp [hd_clr]⟩, ?_, ?_, ?_, ?_⟩, ?_, ?_, ⟨?_, ?_⟩, ?_⟩
    · unfold c_cls ch_clr; split <;> simp [mj_u, hd_clr] <;> rfl
    · unfold c_cls ch_clr; split <;> simp [mj_u, hd_clr]
    · unfold c_cls ch_clr; split <;> simp [mj_u, hd_clr] <;> rfl
    · unfold c_cls ch_clr; split <;> simp [mj_u, hd_clr]
    · unfold c_cls ch_clr; split <;> simp [mj_u, hd_clr]
    · have := hh.2.2.2.2.2.2.2.1
      unfold c_cls ch_clr; split <;> simp [mj_u, hd_clr, this]
    · have := hh.2.2.2.2.2.2.2.2
      unfold c_cls ch_clr; split <;> simp [mj_u, hd_clr, this]
    · unfold c_cls; split <;> simp [mj_u]
    · unfold c_cls ch_clr; split <;> simp [mj_u, hw]
    · unfold c_cls ch_clr a_ms; split <;> simp [mj_u, m1]; rfl
    · unfold a_ms; split
      · exact m2
      · simp
    · intro i v hi
      unfold a_ms at hi
      split at hi
      · rw [hoff _ _ (by omega) (by omega)]; exact m3 i v hi
      · simp at hi
  · intro x j hx
    unfold c_cls ch_clr
    have h1 : x ≠ 72 := by omega
    have h2 : x ≠ 1 := by omega
    split <;> simp [mj_u, h1, h2]
/-- the post of a request: what stands then -/
def c_post (L : Nat) (I0 : Nat → Nat → Int32) (R0 : Nat → Nat → Option Nat) (ans : Int32) (S : ty_st) (H : ty_hd) (f w : Int32) (ms : List Int32) (r : Option Value × mj_H) : Prop :=
  ∃ sn sx pn px I R, r = (some (.int ans), (mz_SH L, I, R)) ∧ c_all sn sx pn px S H f w ms I R ∧ fr_C I0 I ∧ fr_C R0 R
theorem l45 {v5 : Value} {st k nd : Int32} {it : Bool} {I0 : Nat → Nat → Int32} {R0 : Nat → Nat → Option Nat} (h : c_all sn sx pn px S H f w ms I R) (fI : fr_C I0 I) (fR : fr_C R0 R) :
    mj_T pj_P 45 111 [.ref 1, .int st, .int k, .int nd, .int (pz it), v5] [] (mz_SH L, I, R) (c_post L I0 R0 (if it = true then 0 else st) S (hd_clr H) (-1) w (a_ms (if it = true then 0 else st) ms)) := by
  have h1 := sh_1 L
  have e : ∀ a, mj_T pj_P 45 122 [.ref 1, .int st, .int k, .int nd, .int (pz it), v5] [.int a, .ref 1] (mz_SH L, I, R) (c_post L I0 R0 a S (hd_clr H) (-1) w (a_ms a ms)) := by
    intro a
    refine mj_b_call (hE := fe_45_122) (hi := in_37) (h1 := g37' a h) (hc := mj_cok_v rfl rfl h1) (ha := rfl) (hr := rfl) ?_
    rintro v M1 ⟨I', hM, hc, hf'⟩
    cases hM
    exact mj_b_retI (hE := fe_45_125) (hi := in_45) ⟨sn, sx, pn, px, I', R, rfl, hc, fI.trans hf', fR⟩
  refine mj_b_rload_n (hE := fe_45_111) (hv := rfl) (k := ?_)
  refine mj_b_iload (hE := fe_45_112) (hv := rfl) (k := ?_)
  refine mj_b_if1 (hE := fe_45_114) (kt := fun g => ?_) (kf := fun g => ?_)
  · simp only [mj_cnd, decide_eq_true_eq, pz_0] at g
    refine mj_b_iload_n (hE := fe_45_121) (hv := rfl) (k := ?_)
    subst g
    exact e st
  · simp only [mj_cnd, decide_eq_false_iff_not, pz_0, Bool.not_eq_false] at g
    refine mj_b_iconst (hE := fe_45_117) (k := ?_)
    refine mj_b_goto (hE := fe_45_118) (k := ?_)
    subst g
    exact e 0
/-- the writes that were made are counted -/
theorem c_all.wr (h : c_all sn sx pn px S H f w ms I R) (v : Int32) : c_all sn sx pn px S H f v ms (mj_u I 1 4 v) R := by
  obtain ⟨ht, hsx, hs, hok, hh, hf, hw, ⟨m1, m2⟩, m3⟩ := h
  have hb := hs.1
  have hst : cs_rep sn pn S (mj_u I 1 4 v) R := by
    obtain ⟨hb, hok2, ⟨n1, n2⟩, ⟨l1, l2⟩, hr, hk, k1, k2, k3⟩ := hs
    refine ⟨hb, hok2, ⟨?_, n2⟩, ⟨?_, l2⟩, ?_, ?_, ?_, ?_, ?_⟩
    · rw [mj_u_na _ _ _ _ (by omega)]; exact n1
    · rw [mj_u_na _ _ _ _ (by omega)]; exact l1
    · intro i r hi
      rw [rw_at_eq (I := I)]
      · exact hr i r hi
      · intro k; exact mj_u_na _ _ _ _ (by unfold cs_row; omega)
      · intro k; exact mj_u_na _ _ _ _ (by unfold cs_row; omega)
    · intro i l hi
      exact lk_at_eq (fun k => mj_u_na _ _ _ _ (by omega)) (hk i l hi)
    · rw [mj_u_na _ _ _ _ (by omega)]; exact k1
    · rw [mj_u_na _ _ _ _ (by omega)]; exact k2
    · rw [mj_u_na _ _ _ _ (by omega)]; exact k3
  refine ⟨ht, hsx, hst, hok, hh.eq ?_ ?_, ?_, ?_, ⟨?_, m2⟩, ?_⟩
  · intro x j h1 h2; exact mj_u_na _ _ _ _ (by omega)
  · intro x j h1 h2; rfl
  · simp [mj_u, hf]
  · simp [mj_u]
  · simp [mj_u, m1]
  · intro i x hi; rw [mj_u_na _ _ _ _ (by omega)]; exact m3 i x hi
/-- now and next change places -/
theorem c_all.swap (h : c_all sn sx pn px S H f w ms I R) (hx : cs_rep sx px Sx I R) : c_all sx sn px pn Sx H f w ms I (mj_u (mj_u R 1 0 (some sx)) 1 1 (some sn)) := by
  obtain ⟨⟨t1, t2, t3, t4⟩, hsx, hs, hok, hh, hf, hw, hm, m3⟩ := h
  have hR : ∀ x j, x ≠ 1 → mj_u (mj_u R 1 0 (some sx)) 1 1 (some sn) x j = R x j := by intro x j hx; simp [mj_u, hx]
  have hb := hs.1
  refine ⟨⟨by simp [mj_u], by simp [mj_u], by simp [mj_u, t3], by simp [mj_u, t4]⟩, by omega, ?_, ?_, ?_, hf, hw, hm, m3⟩
  · obtain ⟨hxb, ⟨o1, o2, o3, o4, o5, o6⟩, hrest⟩ := hx
    refine ⟨hxb, ⟨?_, ?_, ?_, ?_, ?_, o6⟩, hrest⟩
    · rw [hR _ _ (by omega)]; exact o1
    · rw [hR _ _ (by omega)]; exact o2
    · intro i hi; rw [hR _ _ (by omega)]; exact o3 i hi
    · intro i hi; rw [hR _ _ (by omega)]; exact o4 i hi
    · intro i hi; rw [hR _ _ (by omega)]; exact o5 i hi
  · obtain ⟨o1, o2, o3, o4, o5, o6⟩ := hs.2.1
    refine ⟨?_, ?_, ?_, ?_, ?_, o6⟩
    · rw [hR _ _ (by omega)]; exact o1
    · rw [hR _ _ (by omega)]; exact o2
    · intro i hi; rw [hR _ _ (by omega)]; exact o3 i hi
    · intro i hi; rw [hR _ _ (by omega)]; exact o4 i hi
    · intro i hi; rw [hR _ _ (by omega)]; exact o5 i hi
  · exact hh.eq (fun _ _ _ _ => rfl) (fun x j h1 h2 => hR _ _ (by omega))
/-- what stands in the next store when the dead locks are gone -/
def a_fin (S : ty_st) : ty_st := (S.1, S.2.1.filter (al_live S.1 S.2.2.1), S.2.2)
set_option maxHeartbeats 2000000 in
/-- LockedTree.carryOut -/
theorem g45 {I0 : Nat → Nat → Int32} {R0 : Nat → Nat → Option Nat} (st : Int32) (h : c_all sn sx pn px S H f w ms I R) (hx : cs_rep sx px Sx I R) (fI : fr_C I0 I) (fR : fr_C R0 R) :
    mj_G pj_P 45 [.ref 1, .int st] (mz_SH L, I, R) (c_post L I0 R0 (if a_int f (a_chg (a_fin Sx) S) = true then 0 else st) (if a_cmt f (a_chg (a_fin Sx) S) = true then a_fin Sx else S) (hd_clr H) (-1) (w + a_wr f (a_chg (a_fin Sx) S)) (a_ms (if a_int f (a_chg (a_fin Sx) S) = true then 0 else st) ms)) := by
  have h1 := sh_1 L
  have hxb := hx.1
  have hSx := sh_S L hxb
  have t2 := h.1.2.1
  refine mj_enter in_45 (L := [.ref 1, .int st, .retAddr 0, .retAddr 0, .retAddr 0, .retAddr 0]) rfl ?_
  refine mj_b_rload_n (hE := fe_45_0) (hv := rfl) (k := ?_)
  refine mj_b_getQ (hE := fe_45_1) (hM := by assumption) (hv := by assumption) (k := ?_)
  refine mj_b_call (hE := fe_45_4) (hi := in_46) (h1 := g46 hx) (hc := mj_cok_v rfl rfl hSx) (ha := rfl) (hr := rfl) ?_
  rintro v M1 ⟨I1, hM, hx1, f1⟩
  cases hM
  have hc1 : c_all sn sx pn px S H f w ms I1 R := h.fr f1 fr_R.refl hx.2.1
  have t1 := hc1.1.1
  have hf1 := hc1.2.2.2.2.2.1
  have hw1 := hc1.2.2.2.2.2.2.1
  have fI1 : fr_C I0 I1 := fI.trans (f1.C hxb)
  refine (show mj_T pj_P 45 7 [.ref 1, .int st, .retAddr 0, .retAddr 0, .retAddr 0, .retAddr 0] [] (mz_SH L, I1, R) _ from ?_)
  refine mj_b_rload_n (hE := fe_45_7) (hv := rfl) (k := ?_)
  refine mj_b_getQ (hE := fe_45_8) (hM := by assumption) (hv := by assumption) (k := ?_)
  refine mj_b_rload_n (hE := fe_45_11) (hv := rfl) (k := ?_)
  refine mj_b_getQ (hE := fe_45_12) (hM := by assumption) (hv := by assumption) (k := ?_)
  refine mj_b_callR (hE := fe_45_15) (hi := in_47) (h1 := g47 (S := a_fin Sx) hx1 hc1.2.2.1) (hc := mj_cok_v rfl rfl hSx) (ha := rfl) (hr := rfl) ?_
  generalize a_chg (a_fin Sx) S = k
  have p111 : ∀ (it : Bool) (I2 : Nat → Nat → Int32) (w2 nd : Int32) (v5 : Value), it = a_int f k → c_all sn sx pn px S H f w2 ms I2 R → cs_rep sx px (a_fin Sx) I2 R → fr_C I0 I2 → mj_T pj_P 45 78 [.ref 1, .int st, .int k, .int nd, .int (pz it), v5] [] (mz_SH L, I2, R) (c_post L I0 R0 (if a_int f k = true then 0 else st) (if a_cmt f k = true then a_fin Sx else S) (hd_clr H) (-1) w2 (a_ms (if a_int f k = true then 0 else st) ms)) := by
    intro it I2 w2 nd v5 hit hc2 hx2 fI2
    have t1 := hc2.1.1
    have t2 := hc2.1.2.1
    have hf2 := hc2.2.2.2.2.2.1
    have commit : a_cmt f k = true → mj_T pj_P 45 91 [.ref 1, .int st, .int k, .int nd, .int (pz it), v5] [] (mz_SH L, I2, R) (c_post L I0 R0 (if a_int f k = true then 0 else st) (if a_cmt f k = true then a_fin Sx else S) (hd_clr H) (-1) w2 (a_ms (if a_int f k = true then 0 else st) ms)) := by
      intro hcm
      refine mj_b_rload_n (hE := fe_45_91) (hv := rfl) (k := ?_)
      refine mj_b_getQ (hE := fe_45_92) (hM := by assumption) (hv := by assumption) (k := ?_)
      refine mj_b_rstore (hE := fe_45_95) (hx := Nat.le_of_ble_eq_true rfl) (k := ?_)
      refine mj_b_rload_n (hE := fe_45_97) (hv := rfl) (k := ?_)
      refine mj_b_rload_n (hE := fe_45_98) (hv := rfl) (k := ?_)
      refine mj_b_getQ (hE := fe_45_99) (q := sx) (hM := h1) (hv := t2) (k := ?_)
      refine mj_b_putR (hE := fe_45_102) (hw := rfl) (v := some sx) (hM := h1) (k := ?_)
      refine mj_b_rload_n (hE := fe_45_105) (hv := rfl) (k := ?_)
      refine mj_b_rload (hE := fe_45_106) (hv := rfl) (k := ?_)
      refine mj_b_putR (hE := fe_45_108) (hw := rfl) (v := some sn) (hM := h1) (k := ?_)
      rw [if_pos hcm, ← hit]
      exact l45 (hc2.swap hx2) fI2 (fR.trans ((fr_C.u (by omega) (by omega)).trans (fr_C.u (by omega) (by omega))))
    refine mj_b_iload (hE := fe_45_78) (hv := rfl) (k := ?_)
    refine mj_b_if1 (hE := fe_45_80) (kt := fun g => ?_) (kf := fun g => ?_)
    · simp only [mj_cnd, decide_eq_true_eq, pz_0] at g
      exact commit (by simp [a_cmt, ← hit, g])
    · simp only [mj_cnd, decide_eq_false_iff_not, pz_0, Bool.not_eq_false] at g
      refine mj_b_rload_n (hE := fe_45_83) (hv := rfl) (k := ?_)
      refine mj_b_getV (hE := fe_45_84) (hM := by assumption) (hv := by assumption) (k := ?_)
      refine mj_b_iload_n (hE := fe_45_87) (hv := rfl) (k := ?_)
      refine mj_b_if2 (hE := fe_45_88) (kt := fun q => ?_) (kf := fun q => ?_)
      · simp only [mj_cnd, decide_eq_true_eq] at q
        have hcm : a_cmt f k = false := by simp [a_cmt, ← hit, g, q]
        rw [hcm, ← hit]
        exact l45 hc2 fI2 fR
      · simp only [mj_cnd, decide_eq_false_iff_not] at q
        exact commit (by simp [a_cmt, q])
  have p54 : ∀ (it : Bool) (nd : Int32), it = a_int f k → nd = a_due k → mj_T pj_P 45 54 [.ref 1, .int st, .int k, .int nd, .retAddr 0, .retAddr 0] [.int (pz it)] (mz_SH L, I1, R) (c_post L I0 R0 (if a_int f k = true then 0 else st) (if a_cmt f k = true then a_fin Sx else S) (hd_clr H) (-1) (w + a_wr f k) (a_ms (if a_int f k = true then 0 else st) ms)) := by
    intro it nd hit hnd
    have hx2 : ∀ v, cs_rep sx px (a_fin Sx) (mj_u I1 1 4 v) R := by
      intro v
      obtain ⟨hb, hok2, ⟨n1, n2⟩, ⟨l1, l2⟩, hr, hk, k1, k2, k3⟩ := hx1
      refine ⟨hb, hok2, ⟨?_, n2⟩, ⟨?_, l2⟩, ?_, ?_, ?_, ?_, ?_⟩
      · rw [mj_u_na _ _ _ _ (by omega)]; exact n1
      · rw [mj_u_na _ _ _ _ (by omega)]; exact l1
      · intro i r hi
        rw [rw_at_eq (I := I1)]
        · exact hr i r hi
        · intro k; exact mj_u_na _ _ _ _ (by unfold cs_row; omega)
        · intro k; exact mj_u_na _ _ _ _ (by unfold cs_row; omega)
      · intro i l hi
        exact lk_at_eq (fun k => mj_u_na _ _ _ _ (by omega)) (hk i l hi)
      · rw [mj_u_na _ _ _ _ (by omega)]; exact k1
      · rw [mj_u_na _ _ _ _ (by omega)]; exact k2
      · rw [mj_u_na _ _ _ _ (by omega)]; exact k3
    refine mj_b_istore (hE := fe_45_54) (hx := Nat.le_of_ble_eq_true rfl) (k := ?_)
    refine mj_b_rload_n (hE := fe_45_56) (hv := rfl) (k := ?_)
    refine mj_b_dup (hE := fe_45_57) (hv := rfl) (k := ?_)
    refine mj_b_getV (hE := fe_45_58) (hM := by assumption) (hv := by assumption) (k := ?_)
    refine mj_b_iload (hE := fe_45_61) (hv := rfl) (k := ?_)
    refine mj_b_if1 (hE := fe_45_63) (kt := fun g => ?_) (kf := fun g => ?_)
    · simp only [mj_cnd, decide_eq_true_eq, pz_0] at g
      refine mj_b_iload_n (hE := fe_45_73) (hv := rfl) (k := ?_)
      refine mj_b_iadd (hE := fe_45_74) (k := ?_)
      refine mj_b_putI (hE := fe_45_75) (hw := Or.inl rfl) (hM := by assumption) (k := ?_)
      have ew : w + a_wr f k = w + nd := by simp [a_wr, ← hit, g, hnd]
      rw [ew]
      exact p111 it _ (w + nd) nd _ hit (hc1.wr _) (hx2 _) (fI1.trans (fr_C.u (by omega) (by omega)))
    · simp only [mj_cnd, decide_eq_false_iff_not, pz_0, Bool.not_eq_false] at g
      refine mj_b_rload_n (hE := fe_45_66) (hv := rfl) (k := ?_)
      refine mj_b_getV (hE := fe_45_67) (hM := by assumption) (hv := by assumption) (k := ?_)
      refine mj_b_goto (hE := fe_45_70) (k := ?_)
      refine mj_b_iadd (hE := fe_45_74) (k := ?_)
      refine mj_b_putI (hE := fe_45_75) (hw := Or.inl rfl) (hM := by assumption) (k := ?_)
      have ew : w + a_wr f k = w + f := by simp [a_wr, ← hit, g]
      rw [ew]
      exact p111 it _ (w + f) nd _ hit (hc1.wr _) (hx2 _) (fI1.trans (fr_C.u (by omega) (by omega)))
  have p32 : ∀ nd : Int32, nd = a_due k → mj_T pj_P 45 32 [.ref 1, .int st, .int k, .retAddr 0, .retAddr 0, .retAddr 0] [.int nd] (mz_SH L, I1, R) (c_post L I0 R0 (if a_int f k = true then 0 else st) (if a_cmt f k = true then a_fin Sx else S) (hd_clr H) (-1) (w + a_wr f k) (a_ms (if a_int f k = true then 0 else st) ms)) := by
    intro nd hnd
    refine mj_b_istore_n (hE := fe_45_32) (hx := Nat.le_of_ble_eq_true rfl) (k := ?_)
    refine mj_b_rload_n (hE := fe_45_33) (hv := rfl) (k := ?_)
    refine mj_b_getV (hE := fe_45_34) (hM := by assumption) (hv := by assumption) (k := ?_)
    refine mj_b_iconst (hE := fe_45_37) (k := ?_)
    refine mj_b_if2 (hE := fe_45_38) (kt := fun g => ?_) (kf := fun g => ?_)
    · simp only [mj_cnd, decide_eq_true_eq] at g
      refine mj_b_iconst (hE := fe_45_53) (k := ?_)
      exact p54 false nd (by simp [a_int, g]) hnd
    · simp only [mj_cnd, decide_eq_false_iff_not] at g
      refine mj_b_iload_n (hE := fe_45_41) (hv := rfl) (k := ?_)
      refine mj_b_rload_n (hE := fe_45_42) (hv := rfl) (k := ?_)
      refine mj_b_getV (hE := fe_45_43) (hM := by assumption) (hv := by assumption) (k := ?_)
      refine mj_b_if2 (hE := fe_45_46) (kt := fun q => ?_) (kf := fun q => ?_)
      · simp only [mj_cnd, decide_eq_true_eq] at q
        refine mj_b_iconst (hE := fe_45_53) (k := ?_)
        exact p54 false nd (by simp [a_int, g, ← hnd, q]) hnd
      · simp only [mj_cnd, decide_eq_false_iff_not] at q
        refine mj_b_iconst (hE := fe_45_49) (k := ?_)
        refine mj_b_goto (hE := fe_45_50) (k := ?_)
        exact p54 true nd (by simp [a_int, g, ← hnd, q]) hnd
  refine mj_b_istore_n (hE := fe_45_18) (hx := Nat.le_of_ble_eq_true rfl) (k := ?_)
  refine mj_b_iload_n (hE := fe_45_19) (hv := rfl) (k := ?_)
  refine mj_b_if1 (hE := fe_45_20) (kt := fun g => ?_) (kf := fun g => ?_)
  · simp only [mj_cnd, Bool.not_eq_true', decide_eq_false_iff_not] at g
    refine mj_b_iconst (hE := fe_45_27) (k := ?_)
    refine mj_b_iload_n (hE := fe_45_28) (hv := rfl) (k := ?_)
    refine mj_b_imul (hE := fe_45_29) (k := ?_)
    refine mj_b_iconst (hE := fe_45_30) (k := ?_)
    refine mj_b_iadd (hE := fe_45_31) (k := ?_)
    exact p32 _ (by simp [a_due, g])
  · simp only [mj_cnd, Bool.not_eq_false', decide_eq_true_eq] at g
    refine mj_b_iconst (hE := fe_45_23) (k := ?_)
    refine mj_b_goto (hE := fe_45_24) (k := ?_)
    exact p32 _ (by simp [a_due, g])
end CL
