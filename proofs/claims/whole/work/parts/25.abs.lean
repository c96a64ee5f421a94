/-! ===== the class's questions, over lists ===== -/
theorem pa_any_list {α : Type} {f : Nat → Bool} {g : α → Bool} : ∀ (l : List α) (i : Nat), (∀ j r, l[j]? = some r → f (i + j) = g r) → pa_any f i l.length = l.any g := by
  intro l
  induction l with
  | nil => intro i h; rfl
  | cons a l ih =>
    intro i h
    have h0 := h 0 a rfl
    rw [Nat.add_zero] at h0
    have h1 := ih (i + 1) (fun j r hj => by have := h (j + 1) r (by simpa using hj); rwa [show i + (j + 1) = i + 1 + j by omega] at this)
    simp only [List.length_cons, pa_any, List.any_cons, h0, h1]
theorem pa_find_list {α : Type} {f : Nat → Bool} {g : α → Bool} : ∀ (l : List α) (i : Nat), (∀ j r, l[j]? = some r → f (i + j) = g r) → pa_find f i l.length = (l.findIdx? g).map (fun j => i + j) := by
  intro l
  induction l with
  | nil => intro i h; rfl
  | cons a l ih =>
    intro i h
    have h0 := h 0 a rfl
    rw [Nat.add_zero] at h0
    have h1 := ih (i + 1) (fun j r hj => by have := h (j + 1) r (by simpa using hj); rwa [show i + (j + 1) = i + 1 + j by omega] at this)
    simp only [List.length_cons, pa_find, List.findIdx?_cons, h0, h1]
    cases g a
    · simp only [Bool.false_eq_true, if_false, Option.map_map]
      congr 1
      funext j
      simp only [Function.comp]
      omega
    · simp
theorem c_cnt_list {α : Type} {f : Nat → Bool} {g : α → Bool} : ∀ (l : List α) (i : Nat), (∀ j r, l[j]? = some r → f (i + j) = g r) → c_cnt f i l.length = nI (l.countP g) := by
  intro l
  induction l with
  | nil => intro i h; rfl
  | cons a l ih =>
    intro i h
    have h0 := h 0 a rfl
    rw [Nat.add_zero] at h0
    have h1 := ih (i + 1) (fun j r hj => by have := h (j + 1) r (by simpa using hj); rwa [show i + (j + 1) = i + 1 + j by omega] at this)
    simp only [List.length_cons, c_cnt, List.countP_cons, h0, h1]
    cases g a
    · simp
    · simp only [if_true]
      rw [nI_succ, Int32.add_comm]
/-- the first row with the path; the first lock with the token -/
def ar_get (rs : List ty_rw) (p : Int32) : Option ty_rw := rs.find? (fun r => decide (r.1 = p))
def al_get (ls : List ty_lk) (t : Int32) : Option ty_lk := ls.find? (fun l => decide (l.1 = t))
def al_fi (ls : List ty_lk) (t : Int32) : Option Nat := ls.findIdx? (fun l => decide (l.1 = t))
theorem fi_get {α : Type} {g : α → Bool} : ∀ (l : List α), (l.findIdx? g).bind (fun j => l[j]?) = l.find? g := by
  intro l
  induction l with
  | nil => rfl
  | cons a l ih =>
    simp only [List.findIdx?_cons, List.find?_cons]
    cases g a
    · simp only [Bool.false_eq_true, if_false]
      rw [← ih]
      cases l.findIdx? g <;> simp
    · simp
theorem ar_fi_get {rs : List ty_rw} {p : Int32} {j : Nat} (h : ar_fi rs p = some j) : rs[j]? = ar_get rs p := by
  have := fi_get (g := fun r : ty_rw => decide (r.1 = p)) rs
  unfold ar_fi at h
  rw [h] at this
  exact this
theorem ar_fi_getN {rs : List ty_rw} {p : Int32} (h : ar_fi rs p = none) : ar_get rs p = none := by
  have := fi_get (g := fun r : ty_rw => decide (r.1 = p)) rs
  unfold ar_fi at h
  rw [h] at this
  exact this.symm
theorem al_fi_get {ls : List ty_lk} {p : Int32} {j : Nat} (h : al_fi ls p = some j) : ls[j]? = al_get ls p := by
  have := fi_get (g := fun r : ty_lk => decide (r.1 = p)) ls
  unfold al_fi at h
  rw [h] at this
  exact this
theorem al_fi_getN {ls : List ty_lk} {p : Int32} (h : al_fi ls p = none) : al_get ls p = none := by
  have := fi_get (g := fun r : ty_lk => decide (r.1 = p)) ls
  unfold al_fi at h
  rw [h] at this
  exact this.symm
theorem cl_fnd_list {I : Nat → Nat → Int32} {b : Nat} {t : Int32} : ∀ (ls : List ty_lk) (i : Nat), (∀ j l, ls[j]? = some l → I (b + 29 + (i + j)) 0 = l.1) → cl_fnd I b t i ls.length = (al_fi ls t).map (fun j => i + j) := by
  intro rs
  induction rs with
  | nil => intro i h; rfl
  | cons r rs ih =>
    intro i h
    have h0 := h 0 r rfl
    simp only [Nat.add_zero] at h0
    have h1 := ih (i + 1) (fun j r' hj => by have := h (j + 1) r' (by simpa using hj); rwa [show i + (j + 1) = i + 1 + j by omega] at this)
    simp only [List.length_cons, cl_fnd, al_fi, List.findIdx?_cons, h0]
    by_cases hp : r.1 = t
    · simp [hp]
    · rw [if_neg hp, h1]
      simp only [hp, decide_false, Bool.false_eq_true, if_false, Option.map_map, al_fi]
      congr 1
      funext j
      simp only [Function.comp]
      omega
def a_cov (p : Int32) (l : ty_lk) : Bool := decide (p = l.2.1) || (l.2.2.2.2 && pf_below p l.2.1)
/-- a condition: list, path, about a lock, negated, number -/
abbrev ty_cd : Type := Int32 × Int32 × Bool × Bool × Int32
def cd_at (I : Nat → Nat → Int32) (a : Nat) (c : ty_cd) : Prop := I a 0 = c.1 ∧ I a 1 = c.2.1 ∧ I a 2 = pz c.2.2.1 ∧ I a 3 = pz c.2.2.2.1 ∧ I a 4 = c.2.2.2.2
/-- a header: conditions, number of lists, length, state, path of the group, number, digits -/
abbrev ty_hd : Type := List ty_cd × Int32 × Nat × Int32 × Int32 × Int32 × Int32
def hd_rep (H : ty_hd) (I : Nat → Nat → Int32) (R : Nat → Nat → Option Nat) : Prop :=
  ch_ok R ∧ (I 72 1 = nI H.1.length ∧ H.1.length ≤ 12) ∧ (∀ i c, H.1[i]? = some c → cd_at I (74 + i) c) ∧ I 72 2 = H.2.1 ∧ (I 72 3 = nI H.2.2.1 ∧ H.2.2.1 ≤ 24) ∧ I 72 4 = H.2.2.2.1 ∧ I 72 5 = H.2.2.2.2.1 ∧ I 72 6 = H.2.2.2.2.2.1 ∧ I 72 7 = H.2.2.2.2.2.2
def a_sub (cs : List ty_cd) (t : Int32) : Bool := cs.any (fun c => c.2.2.1 && decide (c.2.2.2.2 = t))
def cx_al (cs : List ty_cd) (i : Nat) : Bool := match cs[i]? with
  | some c => c.2.2.1
  | none => false
def cx_ng (cs : List ty_cd) (i : Nat) : Bool := match cs[i]? with
  | some c => c.2.2.2.1
  | none => false
theorem hd_rep.hd {H : ty_hd} {I : Nat → Nat → Int32} {R : Nat → Nat → Option Nat} (h : hd_rep H I R) : c_hd H.1.length (cx_al H.1) (cx_ng H.1) I R := by
  obtain ⟨h1, h2, h3, -⟩ := h
  refine ⟨h1, h2, ?_⟩
  intro i hi
  have e : H.1[i]? = some H.1[i] := List.getElem?_eq_getElem hi
  have := h3 i _ e
  simp only [cx_al, cx_ng, e]
  exact ⟨this.2.2.1, this.2.2.2.1⟩
def a_bar (ls : List ty_lk) (sub : Int32 → Bool) (p : Int32) : Bool := ls.any (a_cov p) && !(ls.any (fun l => a_cov p l && sub l.1))
def a_coll (rs : List ty_rw) (p : Int32) : Bool := match ar_get rs p with
  | some r => decide (r.2.1 = 2)
  | none => false
section AB
variable {L b sn sx : Nat} {pi : Nat → Nat} {S : ty_st} {H : ty_hd} {I : Nat → Nat → Int32} {R : Nat → Nat → Option Nat}
theorem hd_rep.sub (h : hd_rep H I R) (t : Int32) : ch_sub I (cx_al H.1) H.1.length t = a_sub H.1 t := by
  unfold ch_sub a_sub
  refine pa_any_list _ _ ?_
  intro j c hj
  have := h.2.2.1 j c hj
  rw [Nat.zero_add]
  simp only [ch_is, cx_al, hj, this.2.2.2.2]
theorem cs_rep.cov (h : cs_rep b pi S I R) (p : Int32) {j : Nat} {l : ty_lk} (hj : S.2.1[j]? = some l) : c_cov I b (lx_dp S.2.1) p j = a_cov p l := by
  have := h.2.2.2.2.2.1 j l hj
  simp only [c_cov, cl_cov, a_cov, lx_dp, hj, this.2.1]
theorem cs_rep.csb (h : cs_rep b pi S I R) (hh : hd_rep H I R) (p : Int32) {j : Nat} {l : ty_lk} (hj : S.2.1[j]? = some l) : c_csb I b (lx_dp S.2.1) (cx_al H.1) H.1.length p j = (a_cov p l && a_sub H.1 l.1) := by
  have := h.2.2.2.2.2.1 j l hj
  simp only [c_csb, h.cov p hj, hh.sub, this.1]
theorem cs_rep.bar (h : cs_rep b pi S I R) (hh : hd_rep H I R) (p : Int32) : c_bar I b (lx_dp S.2.1) (cx_al H.1) S.2.1.length H.1.length p = a_bar S.2.1 (a_sub H.1) p := by
  unfold c_bar a_bar
  congr 1
  · exact pa_any_list _ _ (fun j l hj => by rw [Nat.zero_add]; exact h.cov p hj)
  · congr 1
    exact pa_any_list _ _ (fun j l hj => by rw [Nat.zero_add]; exact h.csb hh p hj)
theorem cs_rep.path (h : cs_rep b pi S I R) {j : Nat} {r : ty_rw} (hj : S.1[j]? = some r) : c_rowP I b pi j = r.1 := by
  have := h.2.2.2.2.1 j r hj
  rw [← this]
  rfl
theorem cs_rep.coll (h : cs_rep b pi S I R) (p : Int32) : cs_coll I b pi S.1.length p = a_coll S.1 p := by
  unfold cs_coll a_coll
  rw [h.fnd p]
  cases hf : ar_fi S.1 p with
  | none => rw [ar_fi_getN hf]
  | some j =>
    obtain ⟨r, hr, -⟩ := ar_fi_some hf
    rw [← ar_fi_get hf, hr]
    have := h.2.2.2.2.1 j r hr
    simp only
    rw [← this]
    rfl
/-- LockedTree.firstSubmitted -/
theorem g34' (p : Int32) (h : cs_rep b pi S I R) (hh : hd_rep H I R) (ht : c_top sn sx R) :
    mj_G pj_P 34 [.ref 1, .ref b, .int p] (mz_SH L, I, R) (fun r => r = (some (va_rf ((S.2.1.findIdx? (fun l => a_cov p l && a_sub H.1 l.1)).map (fun i => b + 29 + i))), (mz_SH L, I, R))) := by
  have := g34 (L := L) p h.st hh.hd ht
  rw [pa_find_list S.2.1 0 (fun j l hj => by rw [Nat.zero_add]; exact h.csb hh p hj)] at this
  simpa using this
def a_putR (rs : List ty_rw) (ls : List ty_lk) (sub : Int32 → Bool) (p : Int32) : Int32 :=
  if a_coll rs p = true then 405 else if a_coll rs (p / 8) = false then 409
  else if a_bar ls sub p = true ∨ (ar_has rs p = false ∧ a_bar ls sub (p / 8) = true) then 423
  else if ar_has rs p = false ∧ 13 ≤ rs.length then 507 else -1
theorem c_full_13 {n : Nat} (h : n ≤ 13) : (c_full n = true) = (13 ≤ n) := by
  unfold c_full
  apply propext
  rw [Bool.not_eq_true', decide_eq_false_iff_not]
  constructor
  · intro h1
    rcases Nat.lt_or_ge n 13 with h2 | h2
    · exact absurd (nI_lt (b := 13) h2 (by decide)) h1
    · exact h2
  · intro h1
    have : n = 13 := by omega
    subst this
    decide
theorem cs_rep.putR (h : cs_rep b pi S I R) (hh : hd_rep H I R) (p : Int32) : c_putR I b pi (lx_dp S.2.1) (cx_al H.1) S.1.length S.2.1.length H.1.length p = a_putR S.1 S.2.1 (a_sub H.1) p := by
  unfold c_putR a_putR
  simp only [h.coll, h.bar hh, h.has, c_full_13 h.2.2.1.2]
def a_mkR (rs : List ty_rw) (ls : List ty_lk) (sub : Int32 → Bool) (p : Int32) : Int32 :=
  if ar_has rs p = true then 405 else if a_coll rs (p / 8) = false then 409
  else if a_bar ls sub p = true ∨ a_bar ls sub (p / 8) = true then 423 else if 13 ≤ rs.length then 507 else -1
theorem cs_rep.mkR (h : cs_rep b pi S I R) (hh : hd_rep H I R) (p : Int32) : c_mkR I b pi (lx_dp S.2.1) (cx_al H.1) S.1.length S.2.1.length H.1.length p = a_mkR S.1 S.2.1 (a_sub H.1) p := by
  unfold c_mkR a_mkR
  simp only [h.coll, h.bar hh, h.has, c_full_13 h.2.2.1.2]
def a_delR (rs : List ty_rw) (ls : List ty_lk) (sub : Int32 → Bool) (p : Int32) : Int32 :=
  if p = 0 then 403 else if ar_has rs p = false then 404 else if a_bar ls sub p = true ∨ a_bar ls sub (p / 8) = true then 423 else -1
theorem cs_rep.delR (h : cs_rep b pi S I R) (hh : hd_rep H I R) (p : Int32) : c_delR I b pi (lx_dp S.2.1) (cx_al H.1) S.1.length S.2.1.length H.1.length p = a_delR S.1 S.2.1 (a_sub H.1) p := by
  unfold c_delR a_delR
  rw [h.bar hh, h.bar hh, h.has]
def a_patR (rs : List ty_rw) (ls : List ty_lk) (sub : Int32 → Bool) (p : Int32) : Int32 :=
  if ar_has rs p = false then 404 else if a_bar ls sub p = true then 423 else -1
theorem cs_rep.patR (h : cs_rep b pi S I R) (hh : hd_rep H I R) (p : Int32) : c_patR I b pi (lx_dp S.2.1) (cx_al H.1) S.1.length S.2.1.length H.1.length p = a_patR S.1 S.2.1 (a_sub H.1) p := by
  unfold c_patR a_patR
  rw [h.bar hh, h.has]
def a_tgtR (rs : List ty_rw) (p q : Int32) (ov : Bool) : Int32 :=
  if q = 0 ∨ pf_within q p = true ∨ pf_within p q = true then 403 else if ar_has rs p = false then 404
  else if a_coll rs (q / 8) = false then 409 else if ar_has rs q = true ∧ ov = false then 412 else -1
theorem cs_rep.tgtR (h : cs_rep b pi S I R) (p q : Int32) (ov : Bool) : c_tgtR I b pi S.1.length p q ov = a_tgtR S.1 p q ov := by
  unfold c_tgtR a_tgtR
  rw [h.coll, h.has, h.has]
def a_tbar (rs : List ty_rw) (ls : List ty_lk) (sub : Int32 → Bool) (q : Int32) : Bool := a_bar ls sub (q / 8) || (a_bar ls sub q || rs.any (fun r => pf_below r.1 q && a_bar ls sub r.1))
theorem cs_rep.tbar (h : cs_rep b pi S I R) (hh : hd_rep H I R) (q : Int32) : c_tbar I b pi (lx_dp S.2.1) (cx_al H.1) S.1.length S.2.1.length H.1.length q = a_tbar S.1 S.2.1 (a_sub H.1) q := by
  unfold c_tbar a_tbar
  rw [h.bar hh, h.bar hh]
  congr 2
  refine pa_any_list _ _ (fun j r hj => ?_)
  rw [Nat.zero_add]
  simp only [c_tbf, h.path hj, h.bar hh]
def a_plc (rs : List ty_rw) (p q : Int32) (dq : Bool) : Bool := !(rs.any (fun r => pf_taken r.1 p dq && !(pf_path (pf_answering r.1 p q))))
theorem cs_rep.plc (h : cs_rep b pi S I R) (p q : Int32) (dq : Bool) : c_plc I b pi S.1.length p q dq = a_plc S.1 p q dq := by
  unfold c_plc a_plc
  congr 1
  refine pa_any_list _ _ (fun j r hj => ?_)
  rw [Nat.zero_add]
  simp only [c_plf, h.path hj]
def a_cw (rs : List ty_rw) (q : Int32) : Nat := rs.countP (fun r => pf_within r.1 q)
theorem cs_rep.cw (h : cs_rep b pi S I R) (q : Int32) : c_cw I b pi S.1.length q = nI (a_cw S.1 q) := by
  unfold c_cw a_cw
  refine c_cnt_list _ _ (fun j r hj => ?_)
  rw [Nat.zero_add]
  simp only [h.path hj]
def a_movR (rs : List ty_rw) (ls : List ty_lk) (sub : Int32 → Bool) (p q : Int32) : Int32 :=
  if a_tbar rs ls sub q = true ∨ a_tbar rs ls sub p = true then 423 else if a_plc rs p q true = true then -1 else 507
theorem cs_rep.movR (h : cs_rep b pi S I R) (hh : hd_rep H I R) (p q : Int32) : c_movR I b pi (lx_dp S.2.1) (cx_al H.1) S.1.length S.2.1.length H.1.length p q = a_movR S.1 S.2.1 (a_sub H.1) p q := by
  unfold c_movR a_movR
  rw [h.tbar hh, h.tbar hh, h.plc]
def a_copR (rs : List ty_rw) (ls : List ty_lk) (sub : Int32 → Bool) (p q : Int32) (dq : Bool) : Int32 :=
  if a_tbar rs ls sub q = true then 423 else if a_plc rs p q dq = false then 507
  else if nI rs.length - 1 - nI (a_cw rs q) + (if dq = true then nI (a_cw rs p) else 1) ≤ 12 then -1 else 507
theorem cs_rep.copR (h : cs_rep b pi S I R) (hh : hd_rep H I R) (p q : Int32) (dq : Bool) : c_copR I b pi (lx_dp S.2.1) (cx_al H.1) S.1.length S.2.1.length H.1.length p q dq = a_copR S.1 S.2.1 (a_sub H.1) p q dq := by
  unfold c_copR a_copR
  rw [h.tbar hh, h.plc, h.cw, h.cw]
def a_way (p : Int32) (xc dq : Bool) (l : ty_lk) : Bool := (a_cov p l || (dq && pf_below l.2.1 p)) && (xc || l.2.2.2.1)
def a_lckR (rs : List ty_rw) (ls : List ty_lk) (sub : Int32 → Bool) (p : Int32) (xc dq : Bool) : Int32 :=
  if ar_has rs p = false ∧ a_coll rs (p / 8) = false then 409
  else if (ar_has rs p = false ∧ a_bar ls sub (p / 8) = true) ∨ ls.any (a_way p xc dq) = true then 423
  else if (6 : Int32) ≤ nI ls.length ∨ (ar_has rs p = false ∧ 13 ≤ rs.length) then 507 else -1
theorem cs_rep.lckR (h : cs_rep b pi S I R) (hh : hd_rep H I R) (p : Int32) (xc dq : Bool) : c_lckR I b pi (lx_ex S.2.1) (lx_dp S.2.1) (cx_al H.1) S.1.length S.2.1.length H.1.length p xc dq = a_lckR S.1 S.2.1 (a_sub H.1) p xc dq := by
  unfold c_lckR a_lckR
  simp only [h.coll, h.bar hh, h.has, c_full_13 h.2.2.1.2]
  rw [pa_any_list S.2.1 0 (g := a_way p xc dq)]
  intro j l hj
  have := h.2.2.2.2.2.1 j l hj
  rw [Nat.zero_add]
  simp only [c_way, a_way, h.cov p hj, lx_ex, hj, this.2.1]
/-- does a condition hold of the store, asked about p -/
def a_cnd (rs : List ty_rw) (ls : List ty_lk) (p : Int32) (c : ty_cd) : Bool :=
  (if c.2.2.1 = true then (match al_get ls c.2.2.2.2 with
    | some l => a_cov (if c.2.1 = -1 then p else c.2.1) l
    | none => false) else (match ar_get rs (if c.2.1 = -1 then p else c.2.1) with
    | some r => decide (r.2.2.2.1 = c.2.2.2.2)
    | none => false)) != c.2.2.2.1
theorem cs_rep.cnd (h : cs_rep b pi S I R) (hh : hd_rep H I R) (p : Int32) {j : Nat} {c : ty_cd} (hj : H.1[j]? = some c) : ch_f I b pi (lx_dp S.2.1) S.1.length S.2.1.length (cx_al H.1) (cx_ng H.1) p j = a_cnd S.1 S.2.1 p c := by
  obtain ⟨c0, c1, c2, c3, c4⟩ := hh.2.2.1 j c hj
  simp only [ch_f, cc_hold, a_cnd, cx_al, cx_ng, hj, c1, c4]
  congr 1
  split
  · unfold cc_cov
    have e : cl_fnd I b c.2.2.2.2 0 S.2.1.length = al_fi S.2.1 c.2.2.2.2 := by
      rw [cl_fnd_list S.2.1 0]
      · simp
      · intro i l hi
        rw [Nat.zero_add]
        exact (h.2.2.2.2.2.1 i l hi).1
    rw [e]
    cases hf : al_fi S.2.1 c.2.2.2.2 with
    | none => rw [al_fi_getN hf]
    | some i =>
      obtain ⟨hi1, -⟩ := List.findIdx?_eq_some_iff_getElem.mp hf
      have hi2 : S.2.1[i]? = some S.2.1[i] := List.getElem?_eq_getElem hi1
      rw [← al_fi_get hf, hi2]
      simp only
      exact h.cov _ hi2
  · unfold cc_stp
    rw [h.fnd]
    generalize (if c.2.1 = -1 then p else c.2.1) = q
    cases hf : ar_fi S.1 q with
    | none => rw [ar_fi_getN hf]
    | some i =>
      obtain ⟨r, hr, -⟩ := ar_fi_some hf
      rw [← ar_fi_get hf, hr]
      have := h.2.2.2.2.1 i r hr
      simp only
      rw [← this]
      rfl
/-- the lists in their order -/
def a_hol (f : ty_cd → Bool) : List ty_cd → Bool → Int32 → Bool
  | [], lh, _ => lh
  | c :: cs, lh, l => if c.1 = l then a_hol f cs (lh && f c) l else if lh = true then true else a_hol f cs (f c) c.1
theorem ch_hol_list {f : Nat → Bool} {ls : Nat → Int32} {g : ty_cd → Bool} : ∀ (cs : List ty_cd) (i : Nat) (lh : Bool) (l : Int32), (∀ j c, cs[j]? = some c → f (i + j) = g c ∧ ls (i + j) = c.1) → ch_hol f ls i cs.length lh l = a_hol g cs lh l := by
  intro cs
  induction cs with
  | nil => intro i lh l h; rfl
  | cons c cs ih =>
    intro i lh l h
    have h0 := h 0 c rfl
    rw [Nat.add_zero] at h0
    have h1 := fun lh l => ih (i + 1) lh l (fun j r hj => by have := h (j + 1) r (by simpa using hj); rwa [show i + (j + 1) = i + 1 + j by omega] at this)
    simp only [List.length_cons, ch_hol, a_hol, h0.1, h0.2, h1]
def a_fstR (rs : List ty_rw) (ls : List ty_lk) (H : ty_hd) (p : Int32) (ok : Bool) : Int32 :=
  if ok = false ∨ ¬ (H.2.2.2.1 = 0 ∨ H.2.2.2.1 = 7) then 400 else if a_hol (a_cnd rs ls p) H.1 true 1 = true then -1 else 412
theorem cs_rep.fstR (h : cs_rep b pi S I R) (hh : hd_rep H I R) (p : Int32) (ok : Bool) : c_fstR I b pi (lx_dp S.2.1) S.1.length S.2.1.length H.1.length (cx_al H.1) (cx_ng H.1) p ok = a_fstR S.1 S.2.1 H p ok := by
  unfold c_fstR a_fstR
  have e : (ch_wf I = false) = ¬ (H.2.2.2.1 = 0 ∨ H.2.2.2.1 = 7) := by
    unfold ch_wf
    rw [hh.2.2.2.2.2.1]
    simp
  simp only [e]
  have e2 : ch_holds I b pi (lx_dp S.2.1) S.1.length S.2.1.length H.1.length (cx_al H.1) (cx_ng H.1) p = a_hol (a_cnd S.1 S.2.1 p) H.1 true 1 := by
    unfold ch_holds
    refine ch_hol_list _ _ _ _ ?_
    intro j c hj
    rw [Nat.zero_add]
    exact ⟨h.cnd hh p hj, (hh.2.2.1 j c hj).1⟩
  rw [e2]
end AB
