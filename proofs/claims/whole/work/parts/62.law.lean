/-! ===== the law: how both sides stand between calls ===== -/
section LA
variable {L n sn sx : Nat} {pn px : Nat → Nat} {S Sx : ty_st} {H : ty_hd} {rs : List ty_rw} {hs ms : List Int32} {f w : Int32} {I I' : Nat → Nat → Int32} {R R' : Nat → Nat → Option Nat} {X : Nat → Int32}
theorem wf_oref (h : wf_st n S) (r : Int32) : wf_st (n + 1) (o_ref S w ms r).2.1 := h.mono (by omega)
theorem wf_ocar {st : Int32} (h : wf_st n S) (hx : wf_pre (n + 1) Sx) : wf_st (n + 1) (o_car S f w ms Sx st).2.1 := by
  unfold o_car
  dsimp only
  split
  · exact hx.fin
  · exact h.mono (by omega)
theorem wf_oans {r : Int32} {o : ty_oc} (h : wf_st n S) (ho : r = -1 → wf_st (n + 1) o.2.1) : wf_st (n + 1) (o_ans S w ms r o).2.1 := by
  unfold o_ans
  split
  · exact ho (by assumption)
  · exact wf_oref h r
theorem wf_o_put (h : wf_st n S) (p b : Int32) : wf_st (n + 1) (o_put S H f w ms p b).2.1 := by
  refine wf_oans h (fun e => ?_)
  obtain ⟨e1, e2⟩ := a_two_ok e
  have hok := a_fstR_ok e1
  rw [Bool.and_eq_true] at hok
  exact wf_ocar h ((wf_put h.pre hok.1 (a_putR_ok e2)).mono (by omega))
theorem wf_o_mk (h : wf_st n S) (p : Int32) : wf_st (n + 1) (o_mk S H f w ms p).2.1 := by
  refine wf_oans h (fun e => ?_)
  obtain ⟨e1, e2⟩ := a_two_ok e
  obtain ⟨e3, e4⟩ := a_mkR_ok e2
  exact wf_ocar h ((wf_mk h.pre (a_fstR_ok e1) e3 e4).mono (by omega))
theorem wf_o_del (h : wf_st n S) (p : Int32) : wf_st (n + 1) (o_del S H f w ms p).2.1 := by
  refine wf_oans h (fun e => ?_)
  obtain ⟨e1, e2⟩ := a_two_ok e
  exact wf_ocar h ((wf_del h.pre _ (a_delR_ok e2).1).mono (by omega))
theorem wf_o_cop (h : wf_st n S) (p q : Int32) (dq ov : Bool) : wf_st (n + 1) (o_cop S H f w ms p q dq ov).2.1 := by
  refine wf_oans h (fun e => ?_)
  obtain ⟨e12, e3⟩ := a_two_ok e
  obtain ⟨e1, e2⟩ := a_two_ok e12
  have hok := a_fstR_ok e1
  rw [Bool.and_eq_true] at hok
  exact wf_ocar h ((wf_cop h.pre hok.1 hok.2 e2 e3).mono (by omega))
theorem wf_o_mov (h : wf_st n S) (p q : Int32) (ov : Bool) : wf_st (n + 1) (o_mov S H f w ms p q ov).2.1 := by
  refine wf_oans h (fun e => ?_)
  obtain ⟨e12, e3⟩ := a_two_ok e
  obtain ⟨e1, e2⟩ := a_two_ok e12
  have hok := a_fstR_ok e1
  rw [Bool.and_eq_true] at hok
  exact wf_ocar h ((wf_mov h.pre hok.1 hok.2 e2 e3).mono (by omega))
theorem wf_o_pat (h : wf_st n S) (p k v : Int32) : wf_st (n + 1) (o_pat S H f w ms p k v).2.1 := wf_oans h (fun _ => wf_ocar h ((wf_pat h.pre p k v).mono (by omega)))
theorem wf_o_lck (h : wf_st n S) (hn : n < 1000) (p : Int32) (xc dq : Bool) (t : Int32) : wf_st (n + 1) (o_lck S H f w ms p xc dq t).2.1 := by
  refine wf_oans h (fun e => ?_)
  obtain ⟨e1, e2⟩ := a_two_ok e
  have hok := a_fstR_ok e1
  rw [Bool.and_eq_true] at hok
  obtain ⟨e3, e4⟩ := a_lckR_ok h.2.1.2.1 e2
  exact wf_ocar h (wf_lck h.pre hn hok.1 e3 e4)
theorem wf_o_rfr (h : wf_st n S) (p t : Int32) : wf_st (n + 1) (o_rfr S H f w ms p t).2.1 := by
  refine wf_oans h (fun _ => ?_)
  split
  · exact wf_oref h 412
  · exact wf_ocar h ((wf_end h.pre _ _).mono (by omega))
theorem wf_o_unl (h : wf_st n S) (p t : Int32) : wf_st (n + 1) (o_unl S H f w ms p t).2.1 := by
  refine wf_oans h (fun _ => ?_)
  split
  · exact wf_oref h 409
  · exact wf_ocar h ((wf_end h.pre _ _).mono (by omega))
theorem wf_o_tik (h : wf_st n S) (k : Int32) : wf_st (n + 1) (o_tik S H f w ms k).2.1 := wf_oans h (fun e => wf_ocar h (wf_tik h.pre (a_fstR_ok e)))
/-- cells of the other side -/
theorem c_all.frM (h : c_all sn sx pn px S H f w ms I R) (hf : fr_M I I') : c_all sn sx pn px S H f w ms I' R := by
  obtain ⟨ht, hsx, hs, hok, hh, hf1, hw, ⟨m1, m2⟩, m3⟩ := h
  have hst : cs_rep sn pn S I' R := by
    obtain ⟨hb, hok2, ⟨n1, n2⟩, ⟨l1, l2⟩, hr, hk, k1, k2, k3⟩ := hs
    refine ⟨hb, hok2, ⟨?_, n2⟩, ⟨?_, l2⟩, ?_, ?_, ?_, ?_, ?_⟩
    · rw [hf _ _ (by omega)]; exact n1
    · rw [hf _ _ (by omega)]; exact l1
    · intro i r hi
      have hlt := (List.getElem?_eq_some_iff.mp hi).1
      have := (hok2.2.2.1 i (by omega)).2
      rw [rw_at_eq (I := I)]
      · exact hr i r hi
      · intro k; exact hf _ _ (by unfold cs_row; omega)
      · intro k; exact hf _ _ (by unfold cs_row; omega)
    · intro i l hi
      have hlt := (List.getElem?_eq_some_iff.mp hi).1
      exact lk_at_eq (fun k => hf _ _ (by omega)) (hk i l hi)
    · rw [hf _ _ (by omega)]; exact k1
    · rw [hf _ _ (by omega)]; exact k2
    · rw [hf _ _ (by omega)]; exact k3
  exact ⟨ht, hsx, hst, hok, hh.eq (fun x j h1 h2 => hf _ _ (by omega)) (fun _ _ _ _ => rfl), by rw [hf _ _ (by omega)]; exact hf1, by rw [hf _ _ (by omega)]; exact hw, ⟨by rw [hf _ _ (by omega)]; exact m1, m2⟩, fun i v hi => by rw [hf _ _ (by omega)]; exact m3 i v hi⟩
theorem m_all.frC {T : ty_st} (h : m_all T hs f w ms I) (hf : fr_C I I') : m_all T hs f w ms I' := by
  obtain ⟨h1, ⟨h2, h3⟩, h4, h5, h6, ⟨h7, h8⟩, h9⟩ := h
  exact ⟨h1.eq (fun x j a b => hf _ _ (by omega)), ⟨by rw [hf _ _ (by omega)]; exact h2, h3⟩, fun i c hc => by rw [hf _ _ (by omega)]; exact h4 i c hc, by rw [hf _ _ (by omega)]; exact h5, by rw [hf _ _ (by omega)]; exact h6, ⟨by rw [hf _ _ (by omega)]; exact h7, h8⟩, fun i c hc => by rw [hf _ _ (by omega)]; exact h9 i c hc⟩
theorem mm_ok.frC (h : mm_ok R) (hf : fr_C R R') : mm_ok R' := by
  unfold mm_ok at *
  simp only [hf 87 _ (Or.inr (by decide))]
  exact h
/-- how both sides stand after n calls, the script being X -/
def lw_in (n : Nat) (X : Nat → Int32) (I : Nat → Nat → Int32) (R : Nat → Nat → Option Nat) : Prop :=
  ∃ sn sx pn px S H f w ms rs hs, c_all sn sx pn px S H f w ms I R ∧ m_all (rs, S.2) hs f w ms I ∧ mm_ok R ∧ m_rel n S H f rs hs ∧ ∀ j, I 0 j = X j
theorem lw_mk {o : ty_oc} {I2 : Nat → Nat → Int32} {rs2 : List ty_rw} (hc : c_all sn sx pn px o.2.1 (hd_clr H) (-1) o.2.2.1 o.2.2.2 I R) (fM : fr_M I I2) (hall : m_all (rs2, o.2.1.2) [] (-1) o.2.2.1 o.2.2.2 I2) (hp : rs2.Perm o.2.1.1) (hm : mm_ok R) (hw : wf_st (n + 1) o.2.1) (hX : ∀ j, I 0 j = X j) : lw_in (n + 1) X I2 R :=
  ⟨sn, sx, pn, px, o.2.1, hd_clr H, -1, o.2.2.1, o.2.2.2, rs2, [], hc.frM fM, hall, hm, ⟨hp, hw, ⟨H.2.2.2.2.2, rfl⟩, by simp, Or.inl rfl⟩, fun j => by rw [fM _ _ (by omega)]; exact hX j⟩
theorem lw_in.mono {m : Nat} (h : lw_in n X I R) (hm : n ≤ m) : lw_in m X I R := by
  obtain ⟨sn, sx, pn, px, S, H, f, w, ms, rs, hs, h1, h2, h3, ⟨a, b, c⟩, h5⟩ := h
  exact ⟨sn, sx, pn, px, S, H, f, w, ms, rs, hs, h1, h2, h3, ⟨a, b.mono hm, c⟩, h5⟩
end LA
