/-! ===== pure: copy and move ===== -/
theorem nI_sub {a b : Nat} (h : b ≤ a) : nI a - nI b = nI (a - b) := by
  have e : nI a = nI (a - b) + nI b := by rw [nI_add]; congr 1; omega
  rw [e, Int32.sub_eq_add_neg, Int32.add_assoc, Int32.add_right_neg, Int32.add_zero]
theorem pw_disj {r p q : Int32} (hr : pf_path r = true) (hp : pf_path p = true) (hq : pf_path q = true) (hp0 : p ≠ 0) (hq0 : q ≠ 0) (h1 : pf_within r p = true) (h2 : pf_within r q = true) : pf_within p q = true ∨ pf_within q p = true := by
  obtain ⟨n, k, t, rfl, hn, rfl, hr', ht⟩ := pw_split hr hp h1
  obtain ⟨m, j, u, rfl, hm, e, hr2, hu⟩ := pw_split hr hq h2
  have hn1 := hn.1
  have hm1 := hm.1
  have hr1 := hr'.1
  have hr3 := hr2.1
  have hn0 : 0 < n := Nat.pos_of_ne_zero (fun e => hp0 (by rw [e]; rfl))
  have hm0 : 0 < m := Nat.pos_of_ne_zero (fun e => hq0 (by rw [e]; rfl))
  have e' := nI_inj (by omega) (by omega) e
  have key : ∀ (a b i d v w : Nat), 0 < a → 0 < b → v < 8 ^ i → w < 8 ^ (i + d) → a * 8 ^ i + v = b * 8 ^ (i + d) + w → a = b ∨ nb_bel a b := by
    intro a b i d v w ha hb hv hw he
    have h1 : (a * 8 ^ i + v) / 8 ^ (i + d) = b := by rw [he]; exact nb_add_div hw
    rw [Nat.pow_add, ← Nat.div_div_eq_div_mul, nb_add_div hv] at h1
    cases d with
    | zero => left; simpa using h1
    | succ d =>
      right
      refine ⟨d, ?_, h1⟩
      rw [Nat.pow_succ, ← Nat.div_div_eq_div_mul] at h1
      omega
  unfold pf_within
  simp only [Bool.or_eq_true, decide_eq_true_eq]
  rw [pf_below_iff (by omega) (by omega), pf_below_iff (by omega) (by omega)]
  rcases Nat.le_total k j with h | h
  · obtain ⟨d, rfl⟩ := Nat.exists_eq_add_of_le h
    left
    rcases key n m k d t u hn0 hm0 ht hu e' with rfl | h
    · exact Or.inl rfl
    · exact Or.inr h
  · obtain ⟨d, rfl⟩ := Nat.exists_eq_add_of_le h
    right
    rcases key m n j d u t hm0 hn0 hu ht e'.symm with rfl | h
    · exact Or.inl rfl
    · exact Or.inr h
theorem a_tgtR_ok {rs : List ty_rw} {p q : Int32} {ov : Bool} (h : a_tgtR rs p q ov = -1) : q ≠ 0 ∧ pf_within q p = false ∧ pf_within p q = false ∧ ar_has rs p = true ∧ a_coll rs (q / 8) = true := by
  unfold a_tgtR at h
  split at h
  · exact absurd h (by decide)
  · rename_i h1
    split at h
    · exact absurd h (by decide)
    · rename_i h2
      split at h
      · exact absurd h (by decide)
      · rename_i h3
        simp only [not_or, Bool.not_eq_true] at h1
        exact ⟨h1.1, h1.2.1, h1.2.2, by simpa using h2, by simpa using h3⟩
theorem a_tgt_p0 {p q : Int32} (hq : pf_path q = true) (hq0 : q ≠ 0) (h : pf_within q p = false) : p ≠ 0 := by
  rintro rfl
  unfold pf_within at h
  rw [pw_zero hq hq0] at h
  simp at h
theorem cp_len_out (rs : List ty_rw) (p : Int32) : (rs.filter (ar_out p)).length + a_cw rs p = rs.length := by
  induction rs with
  | nil => rfl
  | cons r rs ih =>
    unfold a_cw at *
    rw [List.filter_cons, List.countP_cons, List.length_cons]
    cases h : pf_within r.1 p <;> simp [ar_out, h] <;> omega
theorem cp_one {rs : List ty_rw} (h : ar_nd rs) (p : Int32) : rs.countP (fun r => decide (r.1 = p)) ≤ 1 := by
  have := kf_cnt (k := fun r : ty_rw => r.1) h p (fun _ => true)
  simp only [Bool.and_true] at this
  rw [this]
  split <;> omega
theorem pf_taken_within {x p : Int32} {dq : Bool} (h : pf_taken x p dq = true) : pf_within x p = true := by
  unfold pf_taken at h
  unfold pf_within
  simp only [Bool.or_eq_true, Bool.and_eq_true] at *
  rcases h with h | h
  · exact Or.inl h
  · exact Or.inr h.2
theorem rdy_gen {n : Nat} {S : ty_st} (h : wf_pre n S) {p q : Int32} {tk : Int32 → Bool} {b : List ty_rw} (hp : pf_path p = true) (hq : pf_path q = true) (hp0 : p ≠ 0) (hq0 : q ≠ 0) (htk : ∀ x, tk x = true → pf_within x p = true) (hb : ar_sorted b) (hbq : ∀ r ∈ b, pf_within r.1 q = false) (hl : b.length + S.1.countP (fun r => tk r.1) ≤ 13) : cp_rdy tk (fun x => pf_answering x p q) S.1 b := by
  obtain ⟨a1, a2, a3, -⟩ := h.1
  refine ⟨hb, hl, ?_, ?_⟩
  · intro r hr ht
    rw [← Bool.not_eq_true]
    intro hh
    obtain ⟨y, hy, e⟩ := ar_has_iff.mp hh
    have := hbq y hy
    rw [e, pw_img (a3 r hr).1 hp hq hp0 hq0 (htk _ ht)] at this
    cases this
  · have := a1.nd
    refine List.Pairwise.imp_of_mem (fun {a c} ha hc hac => ?_) this
    intro ta tc e
    exact hac (pw_inj (a3 a ha).1 (a3 c hc).1 hp hq hp0 hq0 (htk _ ta) (htk _ tc) e)
theorem rdy_cop {n : Nat} {S : ty_st} (h : wf_pre n S) {p q : Int32} {dq ov : Bool} {sub : Int32 → Bool} (hp : pf_path p = true) (hq : pf_path q = true) (ht : a_tgtR S.1 p q ov = -1) (hc : a_copR S.1 S.2.1 sub p q dq = -1) : cp_rdy (fun x => pf_taken x p dq) (fun x => pf_answering x p q) S.1 (S.1.filter (ar_out q)) ∧ a_plc S.1 p q dq = true := by
  obtain ⟨hq0, t2, t3, t4, -⟩ := a_tgtR_ok ht
  have hp0 := a_tgt_p0 hq hq0 t2
  obtain ⟨a1, a2, a3, r0, a4, a5⟩ := h.1
  have hcw : a_cw S.1 q + 1 ≤ S.1.length := by
    have e := cp_len_out S.1 q
    have : r0 ∈ S.1.filter (ar_out q) := List.mem_filter.mpr ⟨a4, by unfold ar_out; rw [a5, pw_out0 hq0]; rfl⟩
    have := List.length_pos_of_mem this
    omega
  unfold a_copR at hc
  split at hc
  · exact absurd hc (by decide)
  · split at hc
    · exact absurd hc (by decide)
    · rename_i hpl
      by_cases hle : nI S.1.length - 1 - nI (a_cw S.1 q) + (if dq = true then nI (a_cw S.1 p) else 1) ≤ 12
      · refine ⟨rdy_gen h hp hq hp0 hq0 (fun x hx => pf_taken_within hx) (a1.sublist List.filter_sublist) (fun r hr => ?_) ?_, by simpa using hpl⟩
        · have := (List.mem_filter.mp hr).2
          unfold ar_out at this
          simpa using this
        · have e := cp_len_out S.1 q
          have e2 : nI S.1.length - 1 - nI (a_cw S.1 q) = nI (S.1.length - 1 - a_cw S.1 q) := by
            rw [show (1 : Int32) = nI 1 from rfl, nI_sub (by omega), nI_sub (by omega)]
          rw [e2] at hle
          have hle2 : S.1.length - 1 - a_cw S.1 q + (if dq = true then a_cw S.1 p else 1) ≤ 12 := by
            have c2 : a_cw S.1 p ≤ S.1.length := List.countP_le_length
            have e3 : (if dq = true then nI (a_cw S.1 p) else 1) = nI (if dq = true then a_cw S.1 p else 1) := by split <;> rfl
            rw [e3, nI_add, show (12 : Int32) = nI 12 from rfl, nI_le_iff (by split <;> omega) (by omega)] at hle
            exact hle
          have hct : S.1.countP (fun r => pf_taken r.1 p dq) ≤ (if dq = true then a_cw S.1 p else 1) := by
            cases dq
            · simp only [pf_taken, Bool.false_and, Bool.or_false, Bool.false_eq_true, if_false]
              exact cp_one a1.nd p
            · simp only [if_true]
              exact List.countP_mono_left (fun r _ hr => pf_taken_within hr)
          omega
      · rw [if_neg hle] at hc
        exact absurd hc (by decide)
theorem rdy_mov {n : Nat} {S : ty_st} (h : wf_pre n S) {p q : Int32} {ov : Bool} {sub : Int32 → Bool} (hp : pf_path p = true) (hq : pf_path q = true) (ht : a_tgtR S.1 p q ov = -1) (hc : a_movR S.1 S.2.1 sub p q = -1) : cp_rdy (fun x => pf_within x p) (fun x => pf_answering x p q) S.1 ((S.1.filter (ar_out q)).filter (ar_out p)) ∧ a_plc S.1 p q true = true := by
  obtain ⟨hq0, t2, t3, t4, -⟩ := a_tgtR_ok ht
  have hp0 := a_tgt_p0 hq hq0 t2
  obtain ⟨a1, a2, a3, r0, a4, a5⟩ := h.1
  refine ⟨rdy_gen h hp hq hp0 hq0 (fun x hx => hx) ((a1.sublist List.filter_sublist).sublist List.filter_sublist) (fun r hr => ?_) ?_, ?_⟩
  · have := (List.mem_filter.mp (List.mem_filter.mp hr).1).2
    unfold ar_out at this
    simpa using this
  · have e := cp_len_out S.1 p
    have e2 : ((S.1.filter (ar_out q)).filter (ar_out p)).length ≤ (S.1.filter (ar_out p)).length := by
      rw [List.filter_filter]
      rw [← List.countP_eq_length_filter, ← List.countP_eq_length_filter]
      exact List.countP_mono_left (fun r _ hr => by simp only [Bool.and_eq_true] at hr; exact hr.1)
    unfold a_cw at e
    omega
  · unfold a_movR at hc
    split at hc
    · exact absurd hc (by decide)
    · split at hc
      · assumption
      · exact absurd hc (by decide)
theorem x_cpm_mem {p q : Int32} {dq : Bool} {y : ty_rw} : ∀ (rs : List ty_rw) (ns : Int32), y ∈ x_cpm p q dq rs ns → ∃ r ∈ rs, pf_taken r.1 p dq = true ∧ y.1 = pf_answering r.1 p q ∧ y.2.1 = r.2.1 := by
  intro rs
  induction rs with
  | nil => intro ns h; cases h
  | cons r rs ih =>
    intro ns h
    simp only [x_cpm] at h
    split at h
    · rename_i ht
      rcases List.mem_cons.mp h with rfl | h
      · exact ⟨r, List.mem_cons_self .., ht, rfl, rfl⟩
      · obtain ⟨r', h1, h2⟩ := ih _ h
        exact ⟨r', List.mem_cons_of_mem _ h1, h2⟩
    · obtain ⟨r', h1, h2⟩ := ih _ h
      exact ⟨r', List.mem_cons_of_mem _ h1, h2⟩
theorem a_plc_ok {rs : List ty_rw} {p q : Int32} {dq : Bool} (h : a_plc rs p q dq = true) {r : ty_rw} (hr : r ∈ rs) (ht : pf_taken r.1 p dq = true) : pf_path (pf_answering r.1 p q) = true := by
  unfold a_plc at h
  rw [Bool.not_eq_true'] at h
  have := List.any_eq_false.mp h r hr
  simpa [ht] using this
theorem wf_cop {n : Nat} {S : ty_st} (h : wf_pre n S) {p q : Int32} {dq ov : Bool} {sub : Int32 → Bool} (hp : pf_path p = true) (hq : pf_path q = true) (ht : a_tgtR S.1 p q ov = -1) (hc : a_copR S.1 S.2.1 sub p q dq = -1) : wf_pre n (x_cop S p q dq) := by
  obtain ⟨hr, hpl⟩ := rdy_cop h hp hq ht hc
  obtain ⟨hq0, -⟩ := a_tgtR_ok ht
  obtain ⟨⟨i1, i2, i3⟩, -⟩ := x_cpl_spec p q dq S.1 _ S.2.2.2.1 hr
  obtain ⟨a1, a2, a3, r0, a4, a5⟩ := h.1
  refine h.rows _ _ i2 i3 ?_ ⟨r0, i1.mem_iff.mpr (List.mem_append_left _ (List.mem_filter.mpr ⟨a4, by unfold ar_out; rw [a5, pw_out0 hq0]; rfl⟩)), a5⟩
  intro r hr
  rcases List.mem_append.mp (i1.mem_iff.mp hr) with hr | hr
  · exact a3 r (List.mem_filter.mp hr).1
  · obtain ⟨r', h1, h2, h3, h4⟩ := x_cpm_mem _ _ hr
    rw [h3, h4]
    exact ⟨a_plc_ok hpl h1 h2, (a3 r' h1).2⟩
theorem wf_mov {n : Nat} {S : ty_st} (h : wf_pre n S) {p q : Int32} {ov : Bool} {sub : Int32 → Bool} (hp : pf_path p = true) (hq : pf_path q = true) (ht : a_tgtR S.1 p q ov = -1) (hc : a_movR S.1 S.2.1 sub p q = -1) : wf_pre n (x_mov S p q) := by
  obtain ⟨hr, hpl⟩ := rdy_mov h hp hq ht hc
  obtain ⟨hq0, t2, -⟩ := a_tgtR_ok ht
  have hp0 := a_tgt_p0 hq hq0 t2
  obtain ⟨i1, i2, i3⟩ := x_mvl_spec p q S.1 _ hr
  obtain ⟨a1, a2, a3, r0, a4, a5⟩ := h.1
  refine h.rows _ _ i2 i3 ?_ ⟨r0, i1.mem_iff.mpr (List.mem_append_left _ (List.mem_filter.mpr ⟨List.mem_filter.mpr ⟨a4, by unfold ar_out; rw [a5, pw_out0 hq0]; rfl⟩, by unfold ar_out; rw [a5, pw_out0 hp0]; rfl⟩)), a5⟩
  intro r hr
  rcases List.mem_append.mp (i1.mem_iff.mp hr) with hr | hr
  · exact a3 r (List.mem_filter.mp (List.mem_filter.mp hr).1).1
  · obtain ⟨r', h1, h2⟩ := List.mem_map.mp hr
    obtain ⟨h3, h4⟩ := List.mem_filter.mp h1
    rw [← h2]
    refine ⟨a_plc_ok hpl h3 ?_, (a3 r' h3).2⟩
    unfold pf_taken
    unfold pf_within at h4
    simpa using h4
/-- move, with the rows changed where they stand -/
theorem mov_perm {n : Nat} {S : ty_st} (h : wf_pre n S) {p q : Int32} {ov : Bool} {sub : Int32 → Bool} (hp : pf_path p = true) (hq : pf_path q = true) (ht : a_tgtR S.1 p q ov = -1) (hc : a_movR S.1 S.2.1 sub p q = -1) {rs : List ty_rw} (hrs : rs.Perm (S.1.filter (ar_out q))) : (rs.map (fun r => if pf_within r.1 p = true then (pf_answering r.1 p q, r.2) else r)).Perm (x_mov S p q).1 := by
  obtain ⟨hr, hpl⟩ := rdy_mov h hp hq ht hc
  obtain ⟨hq0, t2, t3, -⟩ := a_tgtR_ok ht
  have hp0 := a_tgt_p0 hq hq0 t2
  obtain ⟨i1, -⟩ := x_mvl_spec p q S.1 _ hr
  obtain ⟨a1, a2, a3, -⟩ := h.1
  refine ((hrs.map _).trans ?_).trans i1.symm
  have e1 : (S.1.filter (ar_out q)).filter (fun r => pf_within r.1 p) = S.1.filter (fun r => pf_within r.1 p) := by
    rw [List.filter_filter]
    refine List.filter_congr (fun r hr => ?_)
    cases hw : pf_within r.1 p
    · rfl
    · have : pf_within r.1 q = false := by
        rw [← Bool.not_eq_true]
        intro hw2
        rcases pw_disj (a3 r hr).1 hp hq hp0 hq0 hw hw2 with h | h
        · rw [t3] at h; cases h
        · rw [t2] at h; cases h
      simp [ar_out, this]
  rw [← e1]
  generalize S.1.filter (ar_out q) = l
  induction l with
  | nil => exact List.Perm.refl _
  | cons r l ih =>
    rw [List.map_cons, List.filter_cons, List.filter_cons]
    cases hw : pf_within r.1 p
    · simp only [ar_out, hw, Bool.not_false, if_true, Bool.false_eq_true, if_false, List.cons_append]
      exact List.Perm.cons _ ih
    · simp only [ar_out, hw, Bool.not_true, if_true, Bool.false_eq_true, if_false, List.map_cons]
      exact (List.Perm.cons _ ih).trans List.perm_middle.symm
