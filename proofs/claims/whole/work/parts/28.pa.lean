/-! ===== pure: rows in another order, counting, scanning ===== -/
/-- no two rows have the same path -/
def ar_nd (rs : List ty_rw) : Prop := rs.Pairwise (fun a b => a.1 ≠ b.1)
def al_nd (ls : List ty_lk) : Prop := ls.Pairwise (fun a b => a.1 ≠ b.1)
theorem ar_sorted.nd {rs : List ty_rw} (h : ar_sorted rs) : ar_nd rs := List.Pairwise.imp (fun {a b} hab e => by rw [e] at hab; exact absurd hab (by rw [Int32.lt_iff_toInt_lt]; omega)) h
theorem ar_nd.perm {rs qs : List ty_rw} (h : ar_nd rs) (hp : rs.Perm qs) : ar_nd qs := (List.Perm.pairwise_iff (fun h => Ne.symm h) hp).mp h
theorem kf_uniq {α : Type} {k : α → Int32} {l : List α} (h : l.Pairwise (fun a b => k a ≠ k b)) {a b : α} (ha : a ∈ l) (hb : b ∈ l) (e : k a = k b) : a = b := by
  induction h with
  | nil => cases ha
  | cons h1 _ ih =>
    rcases List.mem_cons.mp ha with e1 | ha1 <;> rcases List.mem_cons.mp hb with e2 | hb1
    · exact e1.trans e2.symm
    · subst e1; exact absurd e (h1 _ hb1)
    · subst e2; exact absurd e.symm (h1 _ ha1)
    · exact ih ha1 hb1
theorem kf_find {α : Type} {k : α → Int32} {l : List α} (h : l.Pairwise (fun a b => k a ≠ k b)) {t : Int32} {a : α} : l.find? (fun x => decide (k x = t)) = some a ↔ a ∈ l ∧ k a = t := by
  constructor
  · intro hf
    exact ⟨List.mem_of_find?_eq_some hf, by have := List.find?_some hf; exact of_decide_eq_true this⟩
  · rintro ⟨h1, h2⟩
    cases hf : l.find? (fun x => decide (k x = t)) with
    | none => exact absurd h2 (by have := List.find?_eq_none.mp hf a h1; simpa using this)
    | some b =>
      have hb1 := List.mem_of_find?_eq_some hf
      have hb2 := List.find?_some hf
      rw [kf_uniq h h1 hb1 (by rw [h2]; exact (of_decide_eq_true hb2).symm)]
theorem ar_get_iff {rs : List ty_rw} (h : ar_nd rs) {p : Int32} {r : ty_rw} : ar_get rs p = some r ↔ r ∈ rs ∧ r.1 = p := kf_find (k := fun r : ty_rw => r.1) h
theorem al_get_iff {ls : List ty_lk} (h : al_nd ls) {t : Int32} {l : ty_lk} : al_get ls t = some l ↔ l ∈ ls ∧ l.1 = t := kf_find (k := fun l : ty_lk => l.1) h
theorem ar_get_perm {rs qs : List ty_rw} (hp : rs.Perm qs) (h : ar_nd qs) (p : Int32) : ar_get rs p = ar_get qs p := by
  have h2 : ar_nd rs := h.perm hp.symm
  apply Option.ext
  intro r
  rw [ar_get_iff h, ar_get_iff h2, hp.mem_iff]
theorem ar_has_perm {rs qs : List ty_rw} (hp : rs.Perm qs) (p : Int32) : ar_has rs p = ar_has qs p := hp.any_eq
theorem ar_has_get (rs : List ty_rw) (p : Int32) : ar_has rs p = (ar_get rs p).isSome := by
  unfold ar_has ar_get
  rw [Bool.eq_iff_iff, List.find?_isSome, List.any_eq_true]
theorem ar_has_iff {rs : List ty_rw} {p : Int32} : ar_has rs p = true ↔ ∃ r ∈ rs, r.1 = p := by
  unfold ar_has
  rw [List.any_eq_true]
  simp only [decide_eq_true_eq]
theorem a_coll_perm {rs qs : List ty_rw} (hp : rs.Perm qs) (h : ar_nd qs) (p : Int32) : a_coll rs p = a_coll qs p := by
  unfold a_coll
  rw [ar_get_perm hp h]
/-- counting pairs, both ways -/
def ds_n {α β : Type} (f : α → β → Bool) : List α → List β → Nat
  | [], _ => 0
  | a :: as, bs => bs.countP (f a) + ds_n f as bs
theorem ds_nil {α β : Type} (f : α → β → Bool) (as : List α) : ds_n f as [] = 0 := by
  induction as with
  | nil => rfl
  | cons a as ih => simp [ds_n, ih]
theorem ds_cons {α β : Type} (f : α → β → Bool) (as : List α) (b : β) (bs : List β) : ds_n f as (b :: bs) = as.countP (fun a => f a b) + ds_n f as bs := by
  induction as with
  | nil => rfl
  | cons a as ih =>
    simp only [ds_n, ih, List.countP_cons]
    omega
theorem ds_swap {α β : Type} (f : α → β → Bool) (as : List α) (bs : List β) : ds_n f as bs = ds_n (fun b a => f a b) bs as := by
  induction bs with
  | nil => rw [ds_nil]; rfl
  | cons b bs ih => rw [ds_cons, ih]; rfl
/-- at most one partner: the pairs are those that have one -/
theorem ds_one {α β : Type} (f : α → β → Bool) (g : α → Bool) (bs : List β) : ∀ (as : List α), (∀ a ∈ as, bs.countP (f a) = if g a = true then 1 else 0) → ds_n f as bs = as.countP g := by
  intro as
  induction as with
  | nil => intro _; rfl
  | cons a as ih =>
    intro h
    simp only [ds_n, List.countP_cons]
    rw [ih (fun x hx => h x (List.mem_cons_of_mem _ hx)), h a (List.mem_cons_self ..)]
    omega
theorem kf_cnt {α : Type} {k : α → Int32} {l : List α} (h : l.Pairwise (fun a b => k a ≠ k b)) (t : Int32) (d : α → Bool) : l.countP (fun x => decide (k x = t) && d x) = if ((l.find? (fun x => decide (k x = t))).any d) = true then 1 else 0 := by
  induction h with
  | nil => rfl
  | @cons a l h1 h2 ih =>
    rw [List.countP_cons, List.find?_cons]
    by_cases hk : k a = t
    · have e0 : l.countP (fun x => decide (k x = t) && d x) = 0 := by
        rw [List.countP_eq_zero]
        intro x hx
        have := h1 x hx
        simp only [Bool.and_eq_true, decide_eq_true_eq, not_and]
        intro e
        exact absurd (hk.trans e.symm) this
      rw [e0]
      simp [hk]
    · simp only [hk, decide_false, Bool.false_and, Bool.false_eq_true, if_false, Nat.add_zero]
      exact ih
theorem cp_split {α : Type} (g h : α → Bool) (l : List α) (e : α → Bool) (he : ∀ a ∈ l, (e a = (g a || h a)) ∧ ((g a && h a) = false)) : l.countP e = l.countP g + l.countP h := by
  induction l with
  | nil => rfl
  | cons a l ih =>
    simp only [List.countP_cons]
    rw [ih (fun x hx => he x (List.mem_cons_of_mem _ hx))]
    obtain ⟨h1, h2⟩ := he a (List.mem_cons_self ..)
    rw [h1]
    cases hg : g a <;> cases hh : h a <;> simp [hg, hh] at h2 ⊢ <;> omega
/-- rows that differ, counted from either side -/
theorem ar_dif {new old : List ty_rw} (hn : ar_nd new) (ho : ar_nd old) : new.countP (fun r => (ar_get old r.1).any (fun q => !decide (r.2 = q.2))) = old.countP (fun q => (ar_get new q.1).any (fun r => !decide (r.2 = q.2))) := by
  have h1 := ds_one (fun (r q : ty_rw) => decide (q.1 = r.1) && !decide (r.2 = q.2)) (fun r => (ar_get old r.1).any (fun q => !decide (r.2 = q.2))) old new (fun r _ => kf_cnt (k := fun q : ty_rw => q.1) ho r.1 (fun q => !decide (r.2 = q.2)))
  have h2 := ds_one (fun (q r : ty_rw) => decide (r.1 = q.1) && !decide (r.2 = q.2)) (fun q => (ar_get new q.1).any (fun r => !decide (r.2 = q.2))) new old (fun q _ => kf_cnt (k := fun r : ty_rw => r.1) hn q.1 (fun r => !decide (r.2 = q.2)))
  rw [← h1, ← h2, ds_swap]
  congr 1
  funext q r
  rw [show decide (q.1 = r.1) = decide (r.1 = q.1) from by simp only [eq_comm]]
def md_chr (new : List ty_rw) (q : ty_rw) : Bool := match ar_get new q.1 with
  | none => true
  | some r => !decide (q.2 = r.2)
/-- changed or new, and gone: counted from the old side -/
theorem ar_count {new old : List ty_rw} (hn : ar_nd new) (ho : ar_nd old) : new.countP (a_chr old) + old.countP (a_gor new) = old.countP (md_chr new) + new.countP (a_gor old) := by
  have e1 := cp_split (fun r => (ar_get old r.1).any (fun q => !decide (r.2 = q.2))) (a_gor old) new (a_chr old) (fun r _ => by
    simp only [a_chr, a_gor, ar_has_get]
    cases ar_get old r.1 <;> simp)
  have e2 := cp_split (fun q => (ar_get new q.1).any (fun r => !decide (r.2 = q.2))) (a_gor new) old (md_chr new) (fun q _ => by
    simp only [md_chr, a_gor, ar_has_get]
    cases ar_get new q.1 <;> simp [eq_comm])
  rw [e1, e2, ar_dif hn ho]
  omega
/-- locks: kept and alike -/
theorem al_count {new old : List ty_lk} (hn : al_nd new) (ho : al_nd old) : new.countP (a_chl old) + ds_n (fun (o n : ty_lk) => decide (o.1 = n.1) && decide (o.2.2.1 = n.2.2.1)) old new = new.length ∧ old.countP (a_gol new) + ds_n (fun (o n : ty_lk) => decide (o.1 = n.1)) old new = old.length := by
  constructor
  · have h1 := ds_one (fun (n o : ty_lk) => decide (o.1 = n.1) && decide (o.2.2.1 = n.2.2.1)) (fun n => (al_get old n.1).any (fun o => decide (o.2.2.1 = n.2.2.1))) old new (fun n _ => kf_cnt (k := fun q : ty_lk => q.1) ho n.1 (fun o => decide (o.2.2.1 = n.2.2.1)))
    rw [ds_swap, h1]
    have := cp_split (a_chl old) (fun n => (al_get old n.1).any (fun o => decide (o.2.2.1 = n.2.2.1))) new (fun _ => true) (fun n _ => by
      simp only [a_chl]
      cases al_get old n.1 <;> simp)
    rw [← this, List.countP_true]
  · have h1 := ds_one (fun (o n : ty_lk) => decide (o.1 = n.1)) (fun o => (al_get new o.1).isSome) new old (fun o _ => by
      have := kf_cnt (k := fun q : ty_lk => q.1) hn o.1 (fun _ => true)
      simp only [Bool.and_true] at this
      rw [show (fun n : ty_lk => decide (o.1 = n.1)) = (fun n : ty_lk => decide (n.1 = o.1)) from by funext n; simp only [eq_comm], this]
      unfold al_get
      cases List.find? (fun x : ty_lk => decide (x.1 = o.1)) new <;> simp)
    rw [h1]
    have := cp_split (a_gol new) (fun o => (al_get new o.1).isSome) old (fun _ => true) (fun n _ => by
      simp only [a_gol]
      cases al_get new n.1 <;> simp)
    rw [← this, List.countP_true]
