/-! ===== pure: what the requests bring about ===== -/
theorem i32_lt_irr (a : Int32) : ¬ a < a := by rw [Int32.lt_iff_toInt_lt]; omega
theorem i32_lt_asymm {a b : Int32} (h : a < b) : ¬ b < a := by rw [Int32.lt_iff_toInt_lt] at *; omega
theorem i32_lt_tr {a b c : Int32} (h : a < b) (h2 : b < c) : a < c := by rw [Int32.lt_iff_toInt_lt] at *; omega
theorem i32_lt_of {a b : Int32} (h : ¬ a < b) (h2 : a ≠ b) : b < a := by
  rw [Int32.lt_iff_toInt_lt] at *
  have : a.toInt ≠ b.toInt := fun e => h2 (Int32.toInt_inj.mp e)
  omega
/-- a row is put where its path wants it -/
def ar_ins (x : ty_rw) : List ty_rw → List ty_rw
  | [] => [x]
  | r :: rs => if x.1 < r.1 then x :: r :: rs else r :: ar_ins x rs
theorem ar_ins_eq {x : ty_rw} : ∀ (pre suf : List ty_rw), ar_sorted (pre ++ x :: suf) → pre ++ x :: suf = ar_ins x (pre ++ suf) := by
  intro pre
  induction pre with
  | nil =>
    intro suf h
    cases suf with
    | nil => rfl
    | cons r rs =>
      simp only [List.nil_append] at *
      have := (List.pairwise_cons.mp h).1 r (List.mem_cons_self ..)
      simp [ar_ins, this]
  | cons r rs ih =>
    intro suf h
    simp only [List.cons_append] at *
    have h1 := (List.pairwise_cons.mp h).1 x (by simp)
    rw [ar_ins, if_neg (i32_lt_asymm h1), ← ih suf (List.pairwise_cons.mp h).2]
theorem ar_ins_perm (x : ty_rw) : ∀ (rs : List ty_rw), (ar_ins x rs).Perm (x :: rs) := by
  intro rs
  induction rs with
  | nil => exact List.Perm.refl _
  | cons r rs ih =>
    simp only [ar_ins]
    split
    · exact List.Perm.refl _
    · exact (List.Perm.cons r ih).trans (List.Perm.swap x r rs)
theorem ar_ins_len (x : ty_rw) (rs : List ty_rw) : (ar_ins x rs).length = rs.length + 1 := by rw [(ar_ins_perm x rs).length_eq]; rfl
theorem ar_ins_mem {x y : ty_rw} {rs : List ty_rw} : y ∈ ar_ins x rs ↔ y = x ∨ y ∈ rs := by rw [(ar_ins_perm x rs).mem_iff, List.mem_cons]
theorem ar_ins_sorted {x : ty_rw} : ∀ (rs : List ty_rw), ar_sorted rs → ar_has rs x.1 = false → ar_sorted (ar_ins x rs) := by
  intro rs
  induction rs with
  | nil => intro _ _; simp [ar_ins, ar_sorted]
  | cons r rs ih =>
    intro h hn
    obtain ⟨h1, h2⟩ := List.pairwise_cons.mp h
    simp only [ar_has, List.any_cons, Bool.or_eq_false_iff, decide_eq_false_iff_not] at hn
    simp only [ar_ins]
    split
    · rename_i hx
      refine List.pairwise_cons.mpr ⟨?_, h⟩
      intro y hy
      rcases List.mem_cons.mp hy with rfl | hy
      · exact hx
      · exact i32_lt_tr hx (h1 y hy)
    · rename_i hx
      refine List.pairwise_cons.mpr ⟨?_, ih h2 hn.2⟩
      intro y hy
      rcases ar_ins_mem.mp hy with rfl | hy
      · exact i32_lt_of hx (Ne.symm hn.1)
      · exact h1 y hy
theorem ar_ins_has {x : ty_rw} {rs : List ty_rw} (p : Int32) : ar_has (ar_ins x rs) p = (decide (x.1 = p) || ar_has rs p) := ar_has_perm (ar_ins_perm x rs) p
/-- the row with the path becomes another -/
def ar_upd (rs : List ty_rw) (p : Int32) (g : ty_rw → ty_rw) : List ty_rw := rs.map (fun r => if r.1 = p then g r else r)
theorem ar_upd_no {p : Int32} {g : ty_rw → ty_rw} {rs : List ty_rw} (h : ∀ r ∈ rs, r.1 ≠ p) : ar_upd rs p g = rs := by
  unfold ar_upd
  conv => rhs; rw [← List.map_id rs]
  exact List.map_congr_left (fun r hr => by simp [h r hr])
theorem ar_upd_set {p : Int32} {g : ty_rw → ty_rw} : ∀ (rs : List ty_rw) (j : Nat) (r : ty_rw), ar_nd rs → rs[j]? = some r → r.1 = p → rs.set j (g r) = ar_upd rs p g := by
  intro rs
  induction rs with
  | nil => intro j r _ h; simp at h
  | cons a rs ih =>
    intro j r hn hj hr
    obtain ⟨h1, h2⟩ := List.pairwise_cons.mp hn
    cases j with
    | zero =>
      simp only [List.getElem?_cons_zero, Option.some.injEq] at hj
      subst hj
      simp only [List.set_cons_zero]
      unfold ar_upd
      rw [List.map_cons, if_pos hr]
      congr 1
      exact (ar_upd_no (g := g) (fun x hx e => h1 x hx (hr.trans e.symm))).symm
    | succ j =>
      simp only [List.getElem?_cons_succ] at hj
      have hne : a.1 ≠ p := fun e => h1 r (List.mem_of_getElem? hj) (e.trans hr.symm)
      simp only [List.set_cons_succ]
      unfold ar_upd
      rw [List.map_cons, if_neg hne]
      congr 1
      exact ih j r h2 hj hr
theorem ar_upd_perm {p : Int32} {g : ty_rw → ty_rw} {rs qs : List ty_rw} (h : rs.Perm qs) : (ar_upd rs p g).Perm (ar_upd qs p g) := h.map _
theorem ar_upd_pth {p : Int32} {g : ty_rw → ty_rw} (hg : ∀ r, (g r).1 = r.1) (rs : List ty_rw) : (ar_upd rs p g).map (fun r => r.1) = rs.map (fun r => r.1) := by
  unfold ar_upd
  rw [List.map_map]
  refine List.map_congr_left (fun r _ => ?_)
  simp only [Function.comp]
  split
  · exact hg r
  · rfl
theorem ar_sorted_map {rs : List ty_rw} : ar_sorted rs ↔ (rs.map (fun r => r.1)).Pairwise (· < ·) := by
  unfold ar_sorted
  rw [List.pairwise_map]
theorem ar_has_map (rs : List ty_rw) (p : Int32) : ar_has rs p = (rs.map (fun r => r.1)).any (fun x => decide (x = p)) := by
  unfold ar_has
  rw [List.any_map]
  rfl
theorem ar_upd_sorted {p : Int32} {g : ty_rw → ty_rw} (hg : ∀ r, (g r).1 = r.1) {rs : List ty_rw} (h : ar_sorted rs) : ar_sorted (ar_upd rs p g) := by
  rw [ar_sorted_map, ar_upd_pth hg, ← ar_sorted_map]
  exact h
theorem ar_upd_has {p : Int32} {g : ty_rw → ty_rw} (hg : ∀ r, (g r).1 = r.1) (rs : List ty_rw) (q : Int32) : ar_has (ar_upd rs p g) q = ar_has rs q := by
  rw [ar_has_map, ar_upd_pth hg, ← ar_has_map]
/-- put -/
def x_put (S : ty_st) (p b : Int32) : ty_st := (if ar_has S.1 p = true then ar_upd S.1 p (fun r => (r.1, r.2.1, b, S.2.2.2.1, r.2.2.2.2)) else ar_ins (p, 1, b, S.2.2.2.1, 0, 0, 0) S.1, S.2.1, S.2.2.1, S.2.2.2.1 + 1, S.2.2.2.2)
def x_mk (S : ty_st) (p : Int32) : ty_st := (ar_ins (p, 2, 0, S.2.2.2.1, 0, 0, 0) S.1, S.2.1, S.2.2.1, S.2.2.2.1 + 1, S.2.2.2.2)
/-- what a delete leaves in the list of what it can't take -/
def a_clg (ls : List ty_lk) (sub : Int32 → Bool) (p : Int32) : Bool := a_bar ls sub p || a_bar ls sub (p / 8)
def a_mul (S : ty_st) (sub : Int32 → Bool) (p : Int32) : List Int32 := (S.1.filter (fun r => pf_below r.1 p && a_clg S.2.1 sub r.1)).map (fun r => r.1)
def a_led (ms : List Int32) (x : Int32) : Bool := ms.any (fun m => pf_within m x)
def a_gos (ms : List Int32) (p : Int32) (r : ty_rw) : Bool := pf_within r.1 p && !a_led ms r.1
def x_del (S : ty_st) (sub : Int32 → Bool) (p : Int32) : ty_st := (S.1.filter (fun r => !a_gos (a_mul S sub p) p r), S.2)
/-- copy and move: the rows that come, one after the other -/
def x_cpl (p q : Int32) (dq : Bool) : List ty_rw → List ty_rw → Int32 → List ty_rw × Int32
  | [], b, ns => (b, ns)
  | r :: rs, b, ns => if pf_taken r.1 p dq = true then x_cpl p q dq rs (ar_ins (pf_answering r.1 p q, r.2.1, r.2.2.1, ns, r.2.2.2.2) b) (ns + 1) else x_cpl p q dq rs b ns
def x_mvl (p q : Int32) : List ty_rw → List ty_rw → List ty_rw
  | [], b => b
  | r :: rs, b => if pf_within r.1 p = true then x_mvl p q rs (ar_ins (pf_answering r.1 p q, r.2.1, r.2.2.1, r.2.2.2.1, r.2.2.2.2) b) else x_mvl p q rs b
def x_cop (S : ty_st) (p q : Int32) (dq : Bool) : ty_st := ((x_cpl p q dq S.1 (S.1.filter (ar_out q)) S.2.2.2.1).1, S.2.1, S.2.2.1, (x_cpl p q dq S.1 (S.1.filter (ar_out q)) S.2.2.2.1).2, S.2.2.2.2)
def x_mov (S : ty_st) (p q : Int32) : ty_st := (x_mvl p q S.1 ((S.1.filter (ar_out q)).filter (ar_out p)), S.2)
def rw_prp (k v : Int32) (r : ty_rw) : ty_rw := (r.1, r.2.1, r.2.2.1, r.2.2.2.1, if k = 0 then v else r.2.2.2.2.1, if k = 1 then v else r.2.2.2.2.2.1, if k = 2 then v else r.2.2.2.2.2.2)
def x_pat (S : ty_st) (p k v : Int32) : ty_st := (ar_upd S.1 p (rw_prp k v), S.2)
def x_lck (S : ty_st) (p : Int32) (xc dq : Bool) (t : Int32) : ty_st := (if ar_has S.1 p = true then S.1 else ar_ins (p, 1, 0, S.2.2.2.1, 0, 0, 0) S.1, S.2.1 ++ [(S.2.2.2.2, p, S.2.2.1 + t, xc, dq)], S.2.2.1, if ar_has S.1 p = true then S.2.2.2.1 else S.2.2.2.1 + 1, S.2.2.2.2 + 1)
def lk_end (e : Int32) (l : ty_lk) : ty_lk := (l.1, l.2.1, e, l.2.2.2)
def al_fs (ls : List ty_lk) (sub : Int32 → Bool) (p : Int32) : Option Nat := ls.findIdx? (fun l => a_cov p l && sub l.1)
/-- the lock at j gets another end -/
def al_set (ls : List ty_lk) (j : Nat) (e : Int32) : List ty_lk := match ls[j]? with
  | some l => ls.set j (lk_end e l)
  | none => ls
def x_end (S : ty_st) (j : Nat) (e : Int32) : ty_st := (S.1, al_set S.2.1 j e, S.2.2)
def x_tik (S : ty_st) (n : Int32) : ty_st := (S.1, S.2.1, S.2.2.1 + n, S.2.2.2)
/-- what holds of every state that a run of n calls comes to -/
def wf_st (n : Nat) (S : ty_st) : Prop :=
  (ar_sorted S.1 ∧ S.1.length ≤ 13 ∧ (∀ r ∈ S.1, pf_path r.1 = true ∧ (r.2.1 = 1 ∨ r.2.1 = 2)) ∧ ∃ r ∈ S.1, r.1 = 0) ∧
  (S.2.1.Pairwise (fun a b => a.1 < b.1) ∧ S.2.1.length ≤ 6 ∧ ∀ l ∈ S.2.1, l.1 < S.2.2.2.2 ∧ pf_path l.2.1 = true ∧ S.2.2.1 < l.2.2.1 ∧ ar_has S.1 l.2.1 = true) ∧
  (∃ c, S.2.2.1 = nI c ∧ c ≤ 1000 * n) ∧ ∃ t, S.2.2.2.2 = nI t ∧ 1 ≤ t ∧ t ≤ n + 1
theorem pw_within_trans {a b c : Int32} (ha : pf_path a = true) (hb : pf_path b = true) (hc : pf_path c = true) (h1 : pf_within a b = true) (h2 : pf_within b c = true) : pf_within a c = true := by
  unfold pf_within at *
  simp only [Bool.or_eq_true, decide_eq_true_eq] at *
  rcases h1 with rfl | h1
  · exact h2
  · rcases h2 with rfl | h2
    · exact Or.inr h1
    · exact Or.inr (pw_trans ha hb hc h1 h2)
theorem pw_below_within {a b c : Int32} (ha : pf_path a = true) (hb : pf_path b = true) (hc : pf_path c = true) (h1 : pf_below a b = true) (h2 : pf_within b c = true) : pf_below a c = true := by
  unfold pf_within at h2
  simp only [Bool.or_eq_true, decide_eq_true_eq] at h2
  rcases h2 with rfl | h2
  · exact h1
  · exact pw_trans ha hb hc h1 h2
/-- removing the trees one after the other -/
theorem del_rows {rs : List ty_rw} {ms : List Int32} {p : Int32} (hp : pf_path p = true) (hrs : ∀ r ∈ rs, pf_path r.1 = true) (hms : ∀ m ∈ ms, pf_path m = true) :
    rs.filter (fun r => !(rs.any (fun x => a_gos ms p x && pf_within r.1 x.1))) = rs.filter (fun r => !a_gos ms p r) := by
  refine List.filter_congr (fun r hr => ?_)
  congr 1
  rw [Bool.eq_iff_iff, List.any_eq_true]
  constructor
  · rintro ⟨x, hx, h⟩
    rw [Bool.and_eq_true] at h
    obtain ⟨h1, h2⟩ := h
    unfold a_gos at h1 ⊢
    rw [Bool.and_eq_true, Bool.not_eq_true'] at h1 ⊢
    refine ⟨pw_within_trans (hrs r hr) (hrs x hx) hp h2 h1.1, ?_⟩
    rw [← Bool.not_eq_true]
    intro hl
    unfold a_led at hl h1
    rw [List.any_eq_true] at hl
    obtain ⟨m, hm, hmr⟩ := hl
    have := (List.any_eq_false.mp h1.2) m hm
    exact this (pw_within_trans (hms m hm) (hrs r hr) (hrs x hx) hmr h2)
  · intro h
    exact ⟨r, hr, by rw [h]; simp [pf_within]⟩
/-- one tree more -/
theorem del_step {rs : List ty_rw} {ms : List Int32} {p : Int32} (xs : List ty_rw) (x : ty_rw) : rs.filter (fun r => !((xs ++ [x]).any (fun x => a_gos ms p x && pf_within r.1 x.1))) = if a_gos ms p x = true then (rs.filter (fun r => !(xs.any (fun x => a_gos ms p x && pf_within r.1 x.1)))).filter (ar_out x.1) else rs.filter (fun r => !(xs.any (fun x => a_gos ms p x && pf_within r.1 x.1))) := by
  split
  · rename_i h
    rw [List.filter_filter]
    refine List.filter_congr (fun r _ => ?_)
    rw [List.any_append]
    simp only [List.any_cons, List.any_nil, Bool.or_false, h, Bool.true_and, ar_out, Bool.not_or]
    rw [Bool.and_comm]
  · rename_i h
    refine List.filter_congr (fun r _ => ?_)
    rw [List.any_append]
    simp [h]
/-- the model's question whether something below remains -/
theorem del_rem {S : ty_st} {sub : Int32 → Bool} {p : Int32} (hp : pf_path p = true) (hrs : ∀ r ∈ S.1, pf_path r.1 = true) {r : ty_rw} (hr : r ∈ S.1) (hw : pf_within r.1 p = true) :
    a_led (a_mul S sub p) r.1 = ((!decide (r.1 = p) && a_clg S.2.1 sub r.1) || S.1.any (fun x => pf_below x.1 r.1 && a_clg S.2.1 sub x.1)) := by
  rw [Bool.eq_iff_iff]
  unfold a_led a_mul
  rw [List.any_map, List.any_eq_true, Bool.or_eq_true, List.any_eq_true]
  constructor
  · rintro ⟨x, hx, h⟩
    rw [List.mem_filter, Bool.and_eq_true] at hx
    obtain ⟨hx1, hx2, hx3⟩ := hx
    simp only [Function.comp, pf_within, Bool.or_eq_true, decide_eq_true_eq] at h
    rcases h with e | h
    · left
      rw [Bool.and_eq_true, Bool.not_eq_true', decide_eq_false_iff_not]
      refine ⟨?_, by rw [← e]; exact hx3⟩
      intro e2
      rw [e, e2, pw_irr hp] at hx2
      cases hx2
    · right
      exact ⟨x, hx1, by rw [h, hx3]; rfl⟩
  · rintro (h | ⟨x, hx, h⟩)
    · rw [Bool.and_eq_true, Bool.not_eq_true', decide_eq_false_iff_not] at h
      refine ⟨r, List.mem_filter.mpr ⟨hr, ?_⟩, by simp [pf_within]⟩
      unfold pf_within at hw
      simp only [Bool.or_eq_true, decide_eq_true_eq, h.1, false_or] at hw
      rw [hw, h.2]; rfl
    · rw [Bool.and_eq_true] at h
      refine ⟨x, List.mem_filter.mpr ⟨hx, ?_⟩, by simp [pf_within, h.1]⟩
      rw [pw_below_within (hrs x hx) (hrs r hr) hp h.1 hw, h.2]; rfl
