/-! ===== pure: what holds of every state is kept ===== -/
/-- before the dead locks are dropped -/
def wf_pre (n : Nat) (S : ty_st) : Prop :=
  (ar_sorted S.1 ∧ S.1.length ≤ 13 ∧ (∀ r ∈ S.1, pf_path r.1 = true ∧ (r.2.1 = 1 ∨ r.2.1 = 2)) ∧ ∃ r ∈ S.1, r.1 = 0) ∧
  (S.2.1.Pairwise (fun a b => a.1 < b.1) ∧ S.2.1.length ≤ 6 ∧ ∀ l ∈ S.2.1, l.1 < S.2.2.2.2 ∧ pf_path l.2.1 = true) ∧
  (∃ c, S.2.2.1 = nI c ∧ c ≤ 1000 * n) ∧ ∃ t, S.2.2.2.2 = nI t ∧ 1 ≤ t ∧ t ≤ n + 1
theorem wf_st.pre {n : Nat} {S : ty_st} (h : wf_st n S) : wf_pre n S := ⟨h.1, ⟨h.2.1.1, h.2.1.2.1, fun l hl => ⟨(h.2.1.2.2 l hl).1, (h.2.1.2.2 l hl).2.1⟩⟩, h.2.2⟩
theorem wf_st.mono {n m : Nat} {S : ty_st} (h : wf_st n S) (hm : n ≤ m) : wf_st m S := by
  obtain ⟨h1, h2, ⟨c, h3, h4⟩, t, h5, h6, h7⟩ := h
  exact ⟨h1, h2, ⟨c, h3, by omega⟩, t, h5, h6, by omega⟩
theorem wf_pre.mono {n m : Nat} {S : ty_st} (h : wf_pre n S) (hm : n ≤ m) : wf_pre m S := by
  obtain ⟨h1, h2, ⟨c, h3, h4⟩, t, h5, h6, h7⟩ := h
  exact ⟨h1, h2, ⟨c, h3, by omega⟩, t, h5, h6, by omega⟩
theorem wf_pre.fin {n : Nat} {S : ty_st} (h : wf_pre n S) : wf_st n (a_fin S) := by
  obtain ⟨h1, ⟨h2, h3, h4⟩, h5⟩ := h
  refine ⟨h1, ⟨h2.sublist List.filter_sublist, Nat.le_trans (List.length_filter_le _ _) h3, ?_⟩, h5⟩
  intro l hl
  simp only [a_fin, List.mem_filter, al_live, Bool.and_eq_true, Bool.not_eq_true', decide_eq_false_iff_not] at hl
  obtain ⟨hl1, hl2, hl3⟩ := hl
  refine ⟨(h4 l hl1).1, (h4 l hl1).2, ?_, hl3⟩
  rw [Int32.le_iff_toInt_le] at hl2
  rw [Int32.lt_iff_toInt_lt]
  simp only [a_fin]
  omega
/-- other rows -/
theorem wf_pre.rows {n : Nat} {S : ty_st} (h : wf_pre n S) (rs : List ty_rw) (ns : Int32) (h1 : ar_sorted rs) (h2 : rs.length ≤ 13) (h3 : ∀ r ∈ rs, pf_path r.1 = true ∧ (r.2.1 = 1 ∨ r.2.1 = 2)) (h4 : ∃ r ∈ rs, r.1 = 0) : wf_pre n (rs, S.2.1, S.2.2.1, ns, S.2.2.2.2) := ⟨⟨h1, h2, h3, h4⟩, h.2.1, h.2.2⟩
theorem wf_pre.ins {n : Nat} {S : ty_st} (h : wf_pre n S) (x : ty_rw) (ns : Int32) (hx : pf_path x.1 = true) (hk : x.2.1 = 1 ∨ x.2.1 = 2) (hn : ar_has S.1 x.1 = false) (hl : S.1.length < 13) : wf_pre n (ar_ins x S.1, S.2.1, S.2.2.1, ns, S.2.2.2.2) := by
  obtain ⟨a1, a2, a3, r0, a4, a5⟩ := h.1
  refine h.rows _ ns (ar_ins_sorted _ a1 hn) (by rw [ar_ins_len]; omega) ?_ ⟨r0, ar_ins_mem.mpr (Or.inr a4), a5⟩
  intro r hr
  rcases ar_ins_mem.mp hr with rfl | hr
  · exact ⟨hx, hk⟩
  · exact a3 r hr
theorem wf_pre.upd {n : Nat} {S : ty_st} (h : wf_pre n S) (p : Int32) (g : ty_rw → ty_rw) (ns : Int32) (hg : ∀ r, (g r).1 = r.1 ∧ (g r).2.1 = r.2.1) : wf_pre n (ar_upd S.1 p g, S.2.1, S.2.2.1, ns, S.2.2.2.2) := by
  obtain ⟨a1, a2, a3, r0, a4, a5⟩ := h.1
  have hmem : ∀ r ∈ ar_upd S.1 p g, ∃ r' ∈ S.1, r.1 = r'.1 ∧ r.2.1 = r'.2.1 := by
    intro r hr
    unfold ar_upd at hr
    obtain ⟨r', hr', e⟩ := List.mem_map.mp hr
    refine ⟨r', hr', ?_⟩
    rw [← e]
    split
    · exact hg r'
    · exact ⟨rfl, rfl⟩
  refine h.rows _ ns (ar_upd_sorted (fun r => (hg r).1) a1) (by unfold ar_upd; rw [List.length_map]; exact a2) ?_ ?_
  · intro r hr
    obtain ⟨r', hr', e1, e2⟩ := hmem r hr
    rw [e1, e2]
    exact a3 r' hr'
  · refine ⟨if r0.1 = p then g r0 else r0, List.mem_map.mpr ⟨r0, a4, rfl⟩, ?_⟩
    split
    · rw [(hg r0).1]; exact a5
    · exact a5
theorem wf_pre.flt {n : Nat} {S : ty_st} (h : wf_pre n S) (g : ty_rw → Bool) (h0 : ∀ r ∈ S.1, r.1 = 0 → g r = true) : wf_pre n (S.1.filter g, S.2) := by
  obtain ⟨a1, a2, a3, r0, a4, a5⟩ := h.1
  exact h.rows _ S.2.2.2.1 (a1.sublist List.filter_sublist) (Nat.le_trans (List.length_filter_le _ _) a2) (fun r hr => a3 r (List.mem_filter.mp hr).1) ⟨r0, List.mem_filter.mpr ⟨a4, h0 r0 a4 a5⟩, a5⟩
theorem pw_0 (p : Int32) : pf_below 0 p = false := by simp [pf_below, pf_bel]
theorem pw_out0 {p : Int32} (h : p ≠ 0) : pf_within 0 p = false := by
  unfold pf_within
  rw [pw_0, Bool.or_false, decide_eq_false_iff_not]
  exact Ne.symm h
theorem wf_del {n : Nat} {S : ty_st} (h : wf_pre n S) (sub : Int32 → Bool) {p : Int32} (hp : p ≠ 0) : wf_pre n (x_del S sub p) := h.flt _ (fun r _ e => by simp [a_gos, e, pw_out0 hp])
theorem wf_put {n : Nat} {S : ty_st} (h : wf_pre n S) {p b : Int32} (hp : pf_path p = true) (hl : ar_has S.1 p = false → S.1.length < 13) : wf_pre n (x_put S p b) := by
  unfold x_put
  cases hh : ar_has S.1 p
  · rw [if_neg (by decide)]
    exact h.ins (p, 1, b, S.2.2.2.1, 0, 0, 0) _ hp (Or.inl rfl) hh (hl hh)
  · rw [if_pos rfl]
    exact h.upd p _ _ (fun _ => ⟨rfl, rfl⟩)
theorem wf_mk {n : Nat} {S : ty_st} (h : wf_pre n S) {p : Int32} (hp : pf_path p = true) (hh : ar_has S.1 p = false) (hl : S.1.length < 13) : wf_pre n (x_mk S p) := h.ins (p, 2, 0, S.2.2.2.1, 0, 0, 0) _ hp (Or.inr rfl) hh hl
theorem wf_pat {n : Nat} {S : ty_st} (h : wf_pre n S) (p k v : Int32) : wf_pre n (x_pat S p k v) := h.upd p _ _ (fun _ => ⟨rfl, rfl⟩)
theorem wf_lck {n : Nat} {S : ty_st} (h : wf_pre n S) {p t : Int32} {xc dq : Bool} (hn : n < 1000) (hp : pf_path p = true) (hl : S.2.1.length < 6) (hr : ar_has S.1 p = false → S.1.length < 13) : wf_pre (n + 1) (x_lck S p xc dq t) := by
  have hrows : wf_pre n (if ar_has S.1 p = true then S.1 else ar_ins (p, 1, 0, S.2.2.2.1, 0, 0, 0) S.1, S.2.1, S.2.2.1, if ar_has S.1 p = true then S.2.2.2.1 else S.2.2.2.1 + 1, S.2.2.2.2) := by
    cases hh : ar_has S.1 p
    · exact h.ins (p, 1, 0, S.2.2.2.1, 0, 0, 0) _ hp (Or.inl rfl) hh (hr hh)
    · exact h
  obtain ⟨a1, ⟨a2, a3, a4⟩, ⟨c, a5, a6⟩, tk, a7, a8, a9⟩ := hrows
  simp only at a2 a3 a4 a5 a7
  have hnt : S.2.2.2.2 < S.2.2.2.2 + 1 := by
    rw [a7, ← nI_succ, nI_lt_iff (by omega) (by omega)]
    omega
  refine ⟨a1, ⟨?_, ?_, ?_⟩, ⟨c, a5, by omega⟩, tk + 1, ?_, by omega, by omega⟩
  · simp only [x_lck]
    rw [List.pairwise_append]
    refine ⟨a2, List.pairwise_singleton _ _, ?_⟩
    intro a ha b hb
    rw [List.mem_singleton] at hb
    subst hb
    exact (a4 a ha).1
  · simp only [x_lck, List.length_append, List.length_cons, List.length_nil]; omega
  · intro l hl
    simp only [x_lck, List.mem_append, List.mem_singleton] at hl ⊢
    rcases hl with hl | rfl
    · exact ⟨i32_lt_tr (a4 l hl).1 hnt, (a4 l hl).2⟩
    · exact ⟨hnt, hp⟩
  · simp only [x_lck]; rw [a7, nI_succ]
theorem al_set_len (ls : List ty_lk) (j : Nat) (e : Int32) : (al_set ls j e).length = ls.length := by
  unfold al_set
  split <;> simp
theorem al_set_map {α : Type} (g : ty_lk → α) (hg : ∀ e l, g (lk_end e l) = g l) (ls : List ty_lk) (j : Nat) (e : Int32) : (al_set ls j e).map g = ls.map g := by
  unfold al_set
  split
  · rename_i l hl
    apply List.ext_getElem?
    intro i
    rw [List.getElem?_map, List.getElem?_map, List.getElem?_set]
    split
    · rename_i hij
      subst hij
      split
      · rw [hl]; simp [hg]
      · rename_i h2
        rw [List.getElem?_eq_none (by omega)]
    · rfl
  · rfl
theorem wf_end {n : Nat} {S : ty_st} (h : wf_pre n S) (j : Nat) (e : Int32) : wf_pre n (x_end S j e) := by
  obtain ⟨a1, ⟨a2, a3, a4⟩, a5⟩ := h
  refine ⟨a1, ⟨?_, ?_, ?_⟩, a5⟩
  · simp only [x_end]
    have e1 := al_set_map (fun l => l.1) (fun _ _ => rfl) S.2.1 j e
    have : ((al_set S.2.1 j e).map (fun l => l.1)).Pairwise (· < ·) := by rw [e1]; exact List.pairwise_map.mpr a2
    exact List.pairwise_map.mp this
  · simp only [x_end, al_set_len]; exact a3
  · intro l hl
    simp only [x_end] at hl ⊢
    have e1 := al_set_map (fun l => (l.1, l.2.1)) (fun _ _ => rfl) S.2.1 j e
    have hm : (l.1, l.2.1) ∈ S.2.1.map (fun l => (l.1, l.2.1)) := by rw [← e1]; exact List.mem_map.mpr ⟨l, hl, rfl⟩
    obtain ⟨l', hl', e2⟩ := List.mem_map.mp hm
    simp only [Prod.mk.injEq] at e2
    rw [← e2.1, ← e2.2]
    exact a4 l' hl'
theorem wf_tik {n : Nat} {S : ty_st} (h : wf_pre n S) {k : Int32} (hk : pf_from k 0 1000 = true) : wf_pre (n + 1) (x_tik S k) := by
  obtain ⟨a1, a2, ⟨c, a5, a6⟩, tk, a7, a8, a9⟩ := h
  unfold pf_from at hk
  simp only [Bool.and_eq_true, Bool.not_eq_true', decide_eq_false_iff_not] at hk
  have k1 : 0 ≤ k.toInt := by have := hk.1; rw [Int32.lt_iff_toInt_lt, Int32.toInt_zero] at this; omega
  have k2 : k.toInt ≤ 1000 := by have := hk.2; rw [Int32.lt_iff_toInt_lt, show (1000 : Int32).toInt = 1000 from rfl] at this; omega
  refine ⟨a1, a2, ⟨c + k.toInt.toNat, ?_, by omega⟩, tk, a7, a8, by omega⟩
  simp only [x_tik]
  rw [← nI_add, a5, ← i32_nI2 k1]
/-- rows are ready to come to b -/
def cp_rdy (tk : Int32 → Bool) (to : Int32 → Int32) (rs b : List ty_rw) : Prop :=
  ar_sorted b ∧ b.length + rs.countP (fun r => tk r.1) ≤ 13 ∧ (∀ r ∈ rs, tk r.1 = true → ar_has b (to r.1) = false) ∧ rs.Pairwise (fun a c => tk a.1 = true → tk c.1 = true → to a.1 ≠ to c.1)
theorem cp_rdy.no {tk : Int32 → Bool} {to : Int32 → Int32} {r : ty_rw} {rs b : List ty_rw} (h : cp_rdy tk to (r :: rs) b) (hr : tk r.1 = false) : cp_rdy tk to rs b := by
  obtain ⟨h1, h2, h3, h4⟩ := h
  refine ⟨h1, ?_, fun x hx => h3 x (List.mem_cons_of_mem _ hx), (List.pairwise_cons.mp h4).2⟩
  rw [List.countP_cons, hr] at h2
  simpa using h2
theorem cp_rdy.yes {tk : Int32 → Bool} {to : Int32 → Int32} {r : ty_rw} {rs b : List ty_rw} (h : cp_rdy tk to (r :: rs) b) (hr : tk r.1 = true) : ar_has b (to r.1) = false ∧ b.length < 13 ∧ ar_sorted b ∧ ∀ z, cp_rdy tk to rs (ar_ins (to r.1, z) b) := by
  obtain ⟨h1, h2, h3, h4⟩ := h
  rw [List.countP_cons, hr] at h2
  simp only [if_true] at h2
  obtain ⟨h5, h6⟩ := List.pairwise_cons.mp h4
  have hno := h3 r (List.mem_cons_self ..) hr
  refine ⟨hno, by omega, h1, fun z => ⟨ar_ins_sorted _ h1 hno, ?_, ?_, h6⟩⟩
  · rw [ar_ins_len]; omega
  · intro x hx hxt
    rw [ar_ins_has, h3 x (List.mem_cons_of_mem _ hx) hxt, Bool.or_false, decide_eq_false_iff_not]
    exact h5 x hx hr hxt
/-- what comes, as a list -/
def x_cpm (p q : Int32) (dq : Bool) : List ty_rw → Int32 → List ty_rw
  | [], _ => []
  | r :: rs, ns => if pf_taken r.1 p dq = true then (pf_answering r.1 p q, r.2.1, r.2.2.1, ns, r.2.2.2.2) :: x_cpm p q dq rs (ns + 1) else x_cpm p q dq rs ns
theorem x_cpl_spec (p q : Int32) (dq : Bool) : ∀ (rs b : List ty_rw) (ns : Int32), cp_rdy (fun x => pf_taken x p dq) (fun x => pf_answering x p q) rs b → ((x_cpl p q dq rs b ns).1.Perm (b ++ x_cpm p q dq rs ns) ∧ ar_sorted (x_cpl p q dq rs b ns).1 ∧ (x_cpl p q dq rs b ns).1.length ≤ 13) ∧ (x_cpl p q dq rs b ns).2 = ns + nI (x_cpm p q dq rs ns).length := by
  intro rs
  induction rs with
  | nil =>
    intro b ns h
    refine ⟨⟨by simp [x_cpl, x_cpm], h.1, by simpa [x_cpl] using h.2.1⟩, ?_⟩
    simp [x_cpl, x_cpm]
    rfl
  | cons r rs ih =>
    intro b ns h
    simp only [x_cpl, x_cpm]
    cases ht : pf_taken r.1 p dq
    · simp only [Bool.false_eq_true, if_false]
      exact ih b ns (h.no ht)
    · simp only [if_true]
      obtain ⟨⟨i1, i2, i3⟩, i4⟩ := ih _ (ns + 1) ((h.yes ht).2.2.2 _)
      refine ⟨⟨?_, i2, i3⟩, ?_⟩
      · refine i1.trans (((ar_ins_perm _ _).append_right _).trans ?_)
        rw [List.cons_append]
        exact List.perm_middle.symm
      · rw [i4, List.length_cons, nI_succ, Int32.add_assoc, Int32.add_comm 1]
theorem x_mvl_spec (p q : Int32) : ∀ (rs b : List ty_rw), cp_rdy (fun x => pf_within x p) (fun x => pf_answering x p q) rs b → (x_mvl p q rs b).Perm (b ++ (rs.filter (fun r => pf_within r.1 p)).map (fun r => (pf_answering r.1 p q, r.2))) ∧ ar_sorted (x_mvl p q rs b) ∧ (x_mvl p q rs b).length ≤ 13 := by
  intro rs
  induction rs with
  | nil =>
    intro b h
    exact ⟨by simp [x_mvl], h.1, by simpa [x_mvl] using h.2.1⟩
  | cons r rs ih =>
    intro b h
    simp only [x_mvl]
    cases ht : pf_within r.1 p
    · simp only [Bool.false_eq_true, if_false, List.filter_cons, ht]
      exact ih b (h.no ht)
    · simp only [if_true, List.filter_cons, ht]
      obtain ⟨i1, i2, i3⟩ := ih _ ((h.yes ht).2.2.2 (r.2.1, r.2.2.1, r.2.2.2.1, r.2.2.2.2))
      refine ⟨?_, i2, i3⟩
      refine i1.trans (((ar_ins_perm _ _).append_right _).trans ?_)
      rw [List.cons_append, List.map_cons]
      exact List.perm_middle.symm
