/-! ===== pure: scanning the paths, counting the differences ===== -/
theorem ar_get_none {rs : List ty_rw} {p : Int32} (h : ∀ r ∈ rs, r.1 ≠ p) : ar_get rs p = none := by
  unfold ar_get
  rw [List.find?_eq_none]
  intro r hr
  simpa using h r hr
theorem fm_congr {α β : Type} {f g : α → Option β} : ∀ {l : List α}, (∀ x ∈ l, f x = g x) → l.filterMap f = l.filterMap g := by
  intro l
  induction l with
  | nil => intro _; rfl
  | cons a l ih =>
    intro h
    rw [List.filterMap_cons, List.filterMap_cons, h a (List.mem_cons_self ..), ih (fun x hx => h x (List.mem_cons_of_mem _ hx))]
theorem sc_list : ∀ (m a : Nat) (rs : List ty_rw), ar_sorted rs → a + m < 2 ^ 31 → (∀ r ∈ rs, ∃ n, r.1 = nI n ∧ a ≤ n ∧ n < a + m) → (List.range' a m).filterMap (fun x => ar_get rs (nI x)) = rs := by
  intro m
  induction m with
  | zero =>
    intro a rs _ _ h
    cases rs with
    | nil => rfl
    | cons r rs =>
      obtain ⟨n, -, h1, h2⟩ := h r (List.mem_cons_self ..)
      omega
  | succ m ih =>
    intro a rs hso hlt h
    rw [List.range'_succ, List.filterMap_cons]
    cases rs with
    | nil =>
      simp only [ar_get, List.find?_nil]
      exact ih (a + 1) [] hso (by omega) (fun r hr => by cases hr)
    | cons r rs =>
      obtain ⟨n, e, h1, h2⟩ := h r (List.mem_cons_self ..)
      obtain ⟨s1, s2⟩ := List.pairwise_cons.mp hso
      by_cases hna : n = a
      · subst hna
        have e0 : ar_get (r :: rs) (nI n) = some r := by simp [ar_get, e]
        rw [e0]
        simp only
        congr 1
        have h3 : ∀ r' ∈ rs, ∃ k, r'.1 = nI k ∧ n + 1 ≤ k ∧ k < n + 1 + m := by
          intro r' hr'
          obtain ⟨k, e2, h3, h4⟩ := h r' (List.mem_cons_of_mem _ hr')
          refine ⟨k, e2, ?_, by omega⟩
          have := s1 r' hr'
          rw [e, e2, nI_lt_iff (by omega) (by omega)] at this
          omega
        refine (fm_congr (fun x hx => ?_)).trans (ih (n + 1) rs s2 (by omega) h3)
        obtain ⟨hx1, hx2⟩ := List.mem_range'_1.mp hx
        have e5 : ar_get (r :: rs) (nI x) = ar_get rs (nI x) := by
          unfold ar_get
          rw [List.find?_cons]
          have : ¬ r.1 = nI x := by
            rw [e]
            intro e3
            have := nI_inj (by omega) (by omega) e3
            omega
          simp [this]
        rw [e5]
      · have hgt : ∀ r' ∈ r :: rs, ∃ k, r'.1 = nI k ∧ a + 1 ≤ k ∧ k < a + 1 + m := by
          intro r' hr'
          obtain ⟨k, e2, h3, h4⟩ := h r' hr'
          refine ⟨k, e2, ?_, by omega⟩
          rcases List.mem_cons.mp hr' with rfl | hm
          · have : k = n := nI_inj (by omega) (by omega) (e2.symm.trans e)
            omega
          · have := s1 r' hm
            rw [e, e2, nI_lt_iff (by omega) (by omega)] at this
            omega
        have e0 : ar_get (r :: rs) (nI a) = none := by
          refine ar_get_none (fun r' hr' e3 => ?_)
          obtain ⟨k, e2, h3, h4⟩ := hgt r' hr'
          have := nI_inj (by omega) (by omega) (e2.symm.trans e3)
          omega
        rw [e0]
        exact ih (a + 1) (r :: rs) hso (by omega) hgt
/-- the rows from the path a on -/
theorem sc_from {rs : List ty_rw} (hso : ar_sorted rs) (hp : ∀ r ∈ rs, pf_path r.1 = true) {a : Nat} (ha : a ≤ 4096) : (List.range' a (4096 - a)).filterMap (fun x => ar_get rs (nI x)) = rs.filter (fun r => decide (nI a ≤ r.1)) := by
  rw [← sc_list (4096 - a) a (rs.filter (fun r => decide (nI a ≤ r.1))) (hso.sublist List.filter_sublist) (by omega)]
  · refine fm_congr (fun x hx => ?_)
    obtain ⟨hx1, hx2⟩ := List.mem_range'_1.mp hx
    apply Option.ext
    intro r
    rw [ar_get_iff hso.nd, ar_get_iff (ar_sorted.nd (hso.sublist List.filter_sublist)), List.mem_filter]
    constructor
    · rintro ⟨h1, h2⟩
      refine ⟨⟨h1, ?_⟩, h2⟩
      rw [h2, decide_eq_true_eq, nI_le_iff (by omega) (by omega)]
      exact hx1
    · rintro ⟨⟨h1, -⟩, h2⟩
      exact ⟨h1, h2⟩
  · intro r hr
    obtain ⟨h1, h2⟩ := List.mem_filter.mp hr
    obtain ⟨n, e, hn⟩ := pf_path_nat (hp r h1)
    have := hn.1
    rw [e, decide_eq_true_eq, nI_le_iff (by omega) (by omega)] at h2
    exact ⟨n, e, h2, by omega⟩
theorem sc_has {rs : List ty_rw} {g : Int32 → Bool} : ∀ (l : List Nat), (l.filter (fun x => ar_has rs (nI x) && g (nI x))).map nI = ((l.filterMap (fun x => ar_get rs (nI x))).filter (fun r => g r.1)).map (fun r => r.1) := by
  intro l
  induction l with
  | nil => rfl
  | cons x l ih =>
    rw [List.filter_cons, List.filterMap_cons, ar_has_get]
    cases hg : ar_get rs (nI x) with
    | none => simpa using ih
    | some r =>
      have e : r.1 = nI x := by
        have := List.find?_some hg
        exact of_decide_eq_true this
      simp only [Option.isSome_some, Bool.true_and, List.filter_cons, e]
      cases g (nI x)
      · simpa using ih
      · simp [ih, e]
/-- the first row is the root -/
theorem ar_root {rs : List ty_rw} (hso : ar_sorted rs) (hp : ∀ r ∈ rs, pf_path r.1 = true) (h0 : ∃ r ∈ rs, r.1 = 0) : ∃ r tl, rs = r :: tl ∧ r.1 = 0 ∧ rs.filter (fun r => decide (nI 1 ≤ r.1)) = tl := by
  cases rs with
  | nil => obtain ⟨r, h, -⟩ := h0; cases h
  | cons r tl =>
    obtain ⟨s1, s2⟩ := List.pairwise_cons.mp hso
    have hr : r.1 = 0 := by
      obtain ⟨r0, hm, e⟩ := h0
      rcases List.mem_cons.mp hm with rfl | hm
      · exact e
      · obtain ⟨n, en, hn⟩ := pf_path_nat (hp r (List.mem_cons_self ..))
        have := s1 r0 hm
        have h1 := hn.1
        rw [e, en, show (0 : Int32) = nI 0 from rfl, nI_lt_iff (by omega) (by omega)] at this
        omega
    refine ⟨r, tl, rfl, hr, ?_⟩
    rw [List.filter_cons, hr]
    simp only [show decide (nI 1 ≤ 0) = false from by decide, Bool.false_eq_true, if_false]
    rw [List.filter_eq_self]
    intro x hx
    obtain ⟨n, en, hn⟩ := pf_path_nat (hp x (List.mem_cons_of_mem _ hx))
    have := s1 x hx
    have h1 := hn.1
    rw [hr, en, show (0 : Int32) = nI 0 from rfl, nI_lt_iff (by omega) (by omega)] at this
    rw [en, decide_eq_true_eq, nI_le_iff (by omega) (by omega)]
    omega
/-- what a delete must leave, scanned -/
theorem sc_mul {S : ty_st} {sub : Int32 → Bool} {p : Int32} (hso : ar_sorted S.1) (hp : ∀ r ∈ S.1, pf_path r.1 = true) (h0 : ∃ r ∈ S.1, r.1 = 0) : ((List.range' 1 4095).filter (fun x => ar_has S.1 (nI x) && (pf_below (nI x) p && a_clg S.2.1 sub (nI x)))).map nI = a_mul S sub p := by
  rw [sc_has (g := fun x => pf_below x p && a_clg S.2.1 sub x), show (4095 : Nat) = 4096 - 1 from rfl, sc_from hso hp (by omega)]
  obtain ⟨r, tl, e, hr, ht⟩ := ar_root hso hp h0
  rw [ht]
  unfold a_mul
  rw [e, List.filter_cons, hr, pw_0]
  simp
/-- what a copy takes, scanned -/
theorem x_cpm_from {p q : Int32} {dq : Bool} {rs : List ty_rw} (hp : pf_path p = true) (hrs : ∀ r ∈ rs, pf_path r.1 = true) : ∀ (ns : Int32), x_cpm p q dq (rs.filter (fun r => decide (p ≤ r.1))) ns = x_cpm p q dq rs ns := by
  induction rs with
  | nil => intro ns; rfl
  | cons r rs ih =>
    intro ns
    have ih2 := ih (fun x hx => hrs x (List.mem_cons_of_mem _ hx))
    rw [List.filter_cons]
    cases ht : pf_taken r.1 p dq
    · split
      · simp only [x_cpm, ht, Bool.false_eq_true, if_false]; exact ih2 ns
      · simp only [x_cpm, ht, Bool.false_eq_true, if_false]; exact ih2 ns
    · have hle : p ≤ r.1 := by
        have hw := pf_taken_within ht
        obtain ⟨n, en, hn⟩ := pf_path_nat hp
        obtain ⟨k, ek, hk⟩ := pf_path_nat (hrs r (List.mem_cons_self ..))
        have h1 := hn.1
        have h2 := hk.1
        unfold pf_within at hw
        rw [ek, en, Bool.or_eq_true, decide_eq_true_eq, pf_below_iff (by omega) (by omega)] at hw
        rw [ek, en, nI_le_iff (by omega) (by omega)]
        rcases hw with h | h
        · have := nI_inj (by omega) (by omega) h
          omega
        · have := nb_lt h
          omega
      simp only [hle, decide_true, if_true, x_cpm, ht]
      rw [ih2]
/-- the differences, as the model counts them -/
def md_lal (old new : List ty_lk) : Nat := ds_n (fun (o n : ty_lk) => decide (o.1 = n.1) && decide (o.2.2.1 = n.2.2.1)) old new
def md_lkp (old new : List ty_lk) : Nat := ds_n (fun (o n : ty_lk) => decide (o.1 = n.1)) old new
def md_dif (So S : ty_st) : Int32 := (if So.2.2.1 = S.2.2.1 then 0 else 1) + nI (So.1.countP (md_chr S.1)) + nI (S.1.countP (a_gor So.1)) + nI So.2.1.length - nI (md_lal So.2.1 S.2.1) + nI S.2.1.length - nI (md_lkp So.2.1 S.2.1)
theorem al_sorted_nd {ls : List ty_lk} (h : ls.Pairwise (fun a b => a.1 < b.1)) : al_nd ls := List.Pairwise.imp (fun {a b} hab e => by rw [e] at hab; exact i32_lt_irr _ hab) h
theorem md_dif_eq {S So : ty_st} (h1 : ar_nd S.1) (h2 : ar_nd So.1) (h3 : al_nd S.2.1) (h4 : al_nd So.2.1) : md_dif So S = a_chg S So := by
  have e1 := ar_count h1 h2
  obtain ⟨e2, e3⟩ := al_count h3 h4
  unfold md_dif a_chg
  have c1 : (if So.2.2.1 = S.2.2.1 then (0 : Int32) else 1) = nI (if S.2.2.1 = So.2.2.1 then 0 else 1) := by
    by_cases h : S.2.2.1 = So.2.2.1
    · rw [if_pos h, if_pos h.symm]; rfl
    · rw [if_neg h, if_neg (fun e => h e.symm)]; rfl
  have c2 : (if S.2.2.1 = So.2.2.1 then (0 : Int32) else 1) = nI (if S.2.2.1 = So.2.2.1 then 0 else 1) := by split <;> rfl
  rw [c1, c2]
  generalize (if S.2.2.1 = So.2.2.1 then 0 else 1) = n0
  unfold md_lal md_lkp at *
  generalize ds_n (fun (o n : ty_lk) => decide (o.1 = n.1) && decide (o.2.2.1 = n.2.2.1)) So.2.1 S.2.1 = al at *
  generalize ds_n (fun (o n : ty_lk) => decide (o.1 = n.1)) So.2.1 S.2.1 = kp at *
  rw [nI_add, nI_add, nI_add, nI_add, nI_add, nI_add, nI_add]
  have hal : al ≤ S.2.1.length := by omega
  have hkp : kp ≤ So.2.1.length := by omega
  generalize S.2.1.length = ln at *
  generalize So.2.1.length = lo at *
  have e4 : ∀ x : Nat, nI (x + lo) - nI al + nI ln - nI kp = nI (x + (lo - kp) + (ln - al)) := by
    intro x
    have hx : nI (x + lo) = nI (x + (lo - kp)) + nI kp := by rw [nI_add]; congr 1; omega
    have hy : nI ln = nI (ln - al) + nI al := by rw [nI_add]; congr 1; omega
    rw [hx, hy, ← nI_add (x + (lo - kp))]
    simp only [Int32.sub_eq_add_neg]
    generalize nI (x + (lo - kp)) = A
    generalize nI kp = K
    generalize nI (ln - al) = B
    generalize nI al = L
    have : A + K + -L + (B + L) + -K = A + B + (K + -K) + (L + -L) := by ac_rfl
    rw [this, Int32.add_right_neg, Int32.add_right_neg, Int32.add_zero, Int32.add_zero]
  rw [e4]
  congr 1
  omega
