/-! ===== a store of the class as lists ===== -/
abbrev ty_rw : Type := Int32 × Int32 × Int32 × Int32 × Int32 × Int32 × Int32
abbrev ty_lk : Type := Int32 × Int32 × Int32 × Bool × Bool
abbrev ty_st : Type := List ty_rw × List ty_lk × Int32 × Int32 × Int32
/-- the row at a: path, kind, body, stamp, properties -/
def rw_at (I : Nat → Nat → Int32) (a : Nat) : ty_rw := (I a 0, I a 1, I a 2, I a 3, I (a + 1) 0, I (a + 1) 1, I (a + 1) 2)
/-- the lock at a: token, root, end, exclusive, deep -/
def lk_at (I : Nat → Nat → Int32) (a : Nat) (l : ty_lk) : Prop := I a 0 = l.1 ∧ I a 1 = l.2.1 ∧ I a 2 = l.2.2.1 ∧ I a 3 = pz l.2.2.2.1 ∧ I a 4 = pz l.2.2.2.2
theorem rw_at_eq {I I' : Nat → Nat → Int32} {a : Nat} (h : ∀ j, I' a j = I a j) (h1 : ∀ j, I' (a + 1) j = I (a + 1) j) : rw_at I' a = rw_at I a := by simp only [rw_at, h, h1]
theorem lk_at_eq {I I' : Nat → Nat → Int32} {a : Nat} {l : ty_lk} (h : ∀ j, I' a j = I a j) (hl : lk_at I a l) : lk_at I' a l := by
  simp only [lk_at, h] at hl ⊢
  exact hl
/-- the store at b holds S, its rows in the order pi -/
def cs_rep (b : Nat) (pi : Nat → Nat) (S : ty_st) (I : Nat → Nat → Int32) (R : Nat → Nat → Option Nat) : Prop :=
  (b = 2 ∨ b = 37) ∧ cs_ok b pi R ∧ (I b 1 = nI S.1.length ∧ S.1.length ≤ 13) ∧ (I b 3 = nI S.2.1.length ∧ S.2.1.length ≤ 6) ∧ (∀ i r, S.1[i]? = some r → rw_at I (cs_row b pi i) = r) ∧ (∀ i l, S.2.1[i]? = some l → lk_at I (b + 29 + i) l) ∧ I b 4 = S.2.2.1 ∧ I b 5 = S.2.2.2.1 ∧ I b 6 = S.2.2.2.2
def lx_ex (ls : List ty_lk) (i : Nat) : Bool := match ls[i]? with
  | some l => l.2.2.2.1
  | none => false
def lx_dp (ls : List ty_lk) (i : Nat) : Bool := match ls[i]? with
  | some l => l.2.2.2.2
  | none => false
/-- nothing but the store at b has changed -/
def fr_I (b : Nat) (I I' : Nat → Nat → Int32) : Prop := ∀ x j, (x < b ∨ b + 34 < x) → I' x j = I x j
def fr_R (b : Nat) (R R' : Nat → Nat → Option Nat) : Prop := ∀ x j, (x < b ∨ b + 34 < x) → R' x j = R x j
section RP
variable {L b : Nat} {pi : Nat → Nat} {S : ty_st} {I I' : Nat → Nat → Int32} {R R' : Nat → Nat → Option Nat}
theorem cs_rep.st (h : cs_rep b pi S I R) : c_st b pi S.1.length S.2.1.length (lx_ex S.2.1) (lx_dp S.2.1) I R := by
  obtain ⟨hb, hok, hn, hl, hr, hk, -⟩ := h
  refine ⟨hb, hok, hn, hl, ?_⟩
  intro i hi
  have e : S.2.1[i]? = some S.2.1[i] := List.getElem?_eq_getElem hi
  have := hk i _ e
  simp only [lx_ex, lx_dp, e]
  exact ⟨this.2.2.2.1, this.2.2.2.2⟩
theorem fr_I.refl : fr_I b I I := fun _ _ _ => rfl
theorem fr_R.refl : fr_R b R R := fun _ _ _ => rfl
theorem fr_I.trans {J : Nat → Nat → Int32} (h : fr_I b I I') (h2 : fr_I b I' J) : fr_I b I J := fun x j q => (h2 x j q).trans (h x j q)
theorem fr_R.trans {J : Nat → Nat → Option Nat} (h : fr_R b R R') (h2 : fr_R b R' J) : fr_R b R J := fun x j q => (h2 x j q).trans (h x j q)
theorem fr_I.u {a j : Nat} {v : Int32} (ha : b ≤ a) (hb : a ≤ b + 34) : fr_I b I (mj_u I a j v) := fun x _ q => mj_u_na _ _ _ _ (by omega)
theorem fr_R.u {a j : Nat} {v : Option Nat} (ha : b ≤ a) (hb : a ≤ b + 34) : fr_R b R (mj_u R a j v) := fun x _ q => mj_u_na _ _ _ _ (by omega)
/-- the other store doesn't feel it -/
theorem cs_rep.fr {c : Nat} (h : cs_rep c pi S I R) (hb : b = 2 ∨ b = 37) (hbc : c ≠ b) (fI : fr_I b I I') (fR : fr_R b R R') : cs_rep c pi S I' R' := by
  obtain ⟨hc, ⟨o1, o2, o3, o4, o5, o6⟩, ⟨n1, n2⟩, ⟨l1, l2⟩, hr, hk, k1, k2, k3⟩ := h
  have out : ∀ x, c ≤ x → x ≤ c + 34 → (x < b ∨ b + 34 < x) := by intro x h1 h2; omega
  have eI : ∀ x j, c ≤ x → x ≤ c + 34 → I' x j = I x j := fun x j h1 h2 => fI x j (out x h1 h2)
  have eR : ∀ x j, c ≤ x → x ≤ c + 34 → R' x j = R x j := fun x j h1 h2 => fR x j (out x h1 h2)
  refine ⟨hc, ⟨?_, ?_, ?_, ?_, ?_, o6⟩, ⟨?_, n2⟩, ⟨?_, l2⟩, ?_, ?_, ?_, ?_, ?_⟩
  · rw [eR _ _ (by omega) (by omega)]; exact o1
  · rw [eR _ _ (by omega) (by omega)]; exact o2
  · intro i hi; rw [eR _ _ (by omega) (by omega)]; exact o3 i hi
  · intro i hi; rw [eR _ _ (by omega) (by omega)]; exact o4 i hi
  · intro i hi; rw [eR _ _ (by omega) (by omega)]; exact o5 i hi
  · rw [eI _ _ (by omega) (by omega)]; exact n1
  · rw [eI _ _ (by omega) (by omega)]; exact l1
  · intro i r hi
    have hlt : i < S.1.length := (List.getElem?_eq_some_iff.mp hi).1
    have := (o3 i (by omega)).2
    rw [rw_at_eq (I := I)]
    · exact hr i r hi
    · intro j; exact eI _ _ (by unfold cs_row; omega) (by unfold cs_row; omega)
    · intro j; exact eI _ _ (by unfold cs_row; omega) (by unfold cs_row; omega)
  · intro i l hi
    have hlt : i < S.2.1.length := (List.getElem?_eq_some_iff.mp hi).1
    exact lk_at_eq (fun j => eI _ _ (by omega) (by omega)) (hk i l hi)
  · rw [eI _ _ (by omega) (by omega)]; exact k1
  · rw [eI _ _ (by omega) (by omega)]; exact k2
  · rw [eI _ _ (by omega) (by omega)]; exact k3
/-- the rows take another order -/
theorem cs_ok.perm {σ : Nat → Nat} (h : cs_ok b pi R) (h1 : ∀ j, j < 13 → σ j < 13) (h2 : ∀ i j, i < 13 → j < 13 → σ i = σ j → i = j) (h3 : ∀ j, j < 13 → R' (b + 1) j = R (b + 1) (σ j)) (h4 : ∀ x j, x ≠ b + 1 → R' x j = R x j) : cs_ok b (fun j => pi (σ j)) R' := by
  obtain ⟨o1, o2, o3, o4, o5, o6⟩ := h
  refine ⟨?_, ?_, ?_, ?_, ?_, ?_⟩
  · rw [h4 _ _ (by omega)]; exact o1
  · rw [h4 _ _ (by omega)]; exact o2
  · intro i hi; rw [h3 i hi]; exact o3 _ (h1 i hi)
  · intro i hi; rw [h4 _ _ (by omega)]; exact o4 i hi
  · intro i hi; rw [h4 _ _ (by omega)]; exact o5 i hi
  · intro i j hi hj e; exact h2 i j hi hj (o6 _ _ (h1 i hi) (h1 j hj) e)
/-- a row takes other contents -/
theorem cs_rep.set {j : Nat} {r' : ty_rw} (h : cs_rep b pi S I R) (hj : j < S.1.length) (hr' : rw_at I' (cs_row b pi j) = r') (he : ∀ x k, x ≠ cs_row b pi j → x ≠ cs_row b pi j + 1 → I' x k = I x k) : cs_rep b pi (S.1.set j r', S.2) I' R := by
  obtain ⟨hb, hok, ⟨n1, n2⟩, ⟨l1, l2⟩, hr, hk, k1, k2, k3⟩ := h
  have hpj := (hok.2.2.1 j (by omega)).2
  have hjb : b + 3 ≤ cs_row b pi j ∧ cs_row b pi j ≤ b + 27 := by unfold cs_row; omega
  refine ⟨hb, hok, ⟨?_, by simpa using n2⟩, ⟨?_, l2⟩, ?_, ?_, ?_, ?_, ?_⟩
  · rw [he _ _ (by omega) (by omega)]; simpa using n1
  · rw [he _ _ (by omega) (by omega)]; exact l1
  · intro i r hi
    rw [List.getElem?_set] at hi
    by_cases hij : j = i
    · subst hij
      simp [hj] at hi
      rw [hr', hi]
    · simp [hij] at hi
      have hlt : i < S.1.length := (List.getElem?_eq_some_iff.mp hi).1
      have hne : pi i ≠ pi j := fun e => hij (hok.2.2.2.2.2 i j (by omega) (by omega) e).symm
      rw [rw_at_eq (I := I)]
      · exact hr i r hi
      · intro k; exact he _ _ (by unfold cs_row; omega) (by unfold cs_row; omega)
      · intro k; exact he _ _ (by unfold cs_row; omega) (by unfold cs_row; omega)
  · intro i l hi
    have hlt : i < S.2.1.length := (List.getElem?_eq_some_iff.mp hi).1
    exact lk_at_eq (fun j => he _ _ (by omega) (by omega)) (hk i l hi)
  · rw [he _ _ (by omega) (by omega)]; exact k1
  · rw [he _ _ (by omega) (by omega)]; exact k2
  · rw [he _ _ (by omega) (by omega)]; exact k3
/-- the numbers of the store change -/
theorem cs_rep.num {ck ns nt : Int32} (h : cs_rep b pi S I R) (he : ∀ x k, x ≠ b → I' x k = I x k) (h1 : I' b 1 = I b 1) (h3 : I' b 3 = I b 3) (h4 : I' b 4 = ck) (h5 : I' b 5 = ns) (h6 : I' b 6 = nt) : cs_rep b pi (S.1, S.2.1, ck, ns, nt) I' R := by
  obtain ⟨hb, hok, ⟨n1, n2⟩, ⟨l1, l2⟩, hr, hk, k1, k2, k3⟩ := h
  refine ⟨hb, hok, ⟨by rw [h1]; exact n1, n2⟩, ⟨by rw [h3]; exact l1, l2⟩, ?_, ?_, h4, h5, h6⟩
  · intro i r hi
    rw [rw_at_eq (I := I)]
    · exact hr i r hi
    · intro k; exact he _ _ (by unfold cs_row; omega)
    · intro k; exact he _ _ (by unfold cs_row; omega)
  · intro i l hi
    exact lk_at_eq (fun j => he _ _ (by omega)) (hk i l hi)
/-- a lock takes other contents -/
theorem cs_rep.setL {j : Nat} {l' : ty_lk} (h : cs_rep b pi S I R) (hj : j < S.2.1.length) (hl' : lk_at I' (b + 29 + j) l') (he : ∀ x k, x ≠ b + 29 + j → I' x k = I x k) : cs_rep b pi (S.1, S.2.1.set j l', S.2.2) I' R := by
  obtain ⟨hb, hok, ⟨n1, n2⟩, ⟨l1, l2⟩, hr, hk, k1, k2, k3⟩ := h
  refine ⟨hb, hok, ⟨?_, n2⟩, ⟨?_, by simpa using l2⟩, ?_, ?_, ?_, ?_, ?_⟩
  · rw [he _ _ (by omega)]; exact n1
  · rw [he _ _ (by omega)]; simpa using l1
  · intro i r hi
    have hlt : i < S.1.length := (List.getElem?_eq_some_iff.mp hi).1
    have := (hok.2.2.1 i (by omega)).2
    rw [rw_at_eq (I := I)]
    · exact hr i r hi
    · intro k; exact he _ _ (by unfold cs_row; omega)
    · intro k; exact he _ _ (by unfold cs_row; omega)
  · intro i l hi
    dsimp only at hi
    rw [List.getElem?_set] at hi
    by_cases hij : j = i
    · subst hij
      simp [hj] at hi
      rw [← hi]; exact hl'
    · simp [hij] at hi
      exact lk_at_eq (fun k => he _ _ (by omega)) (hk i l hi)
  · rw [he _ _ (by omega)]; exact k1
  · rw [he _ _ (by omega)]; exact k2
  · rw [he _ _ (by omega)]; exact k3
/-- the place of the first row with the path -/
def ar_fi (rs : List ty_rw) (p : Int32) : Option Nat := rs.findIdx? (fun r => decide (r.1 = p))
theorem cs_fnd_list {p : Int32} : ∀ (rs : List ty_rw) (i : Nat), (∀ j r, rs[j]? = some r → I (cs_row b pi (i + j)) 0 = r.1) → cs_fnd I b pi p i rs.length = (ar_fi rs p).map (fun j => i + j) := by
  intro rs
  induction rs with
  | nil => intro i h; rfl
  | cons r rs ih =>
    intro i h
    have h0 := h 0 r rfl
    rw [Nat.add_zero] at h0
    have h1 := ih (i + 1) (fun j r' hj => by have := h (j + 1) r' (by simpa using hj); rwa [show i + (j + 1) = i + 1 + j by omega] at this)
    simp only [List.length_cons, cs_fnd, ar_fi, List.findIdx?_cons, h0]
    by_cases hp : r.1 = p
    · simp [hp]
    · rw [if_neg hp, h1]
      simp only [hp, decide_false, Bool.false_eq_true, if_false, Option.map_map, ar_fi]
      congr 1
      funext j
      simp only [Function.comp]
      omega
theorem cs_rep.fnd (h : cs_rep b pi S I R) (p : Int32) : cs_fnd I b pi p 0 S.1.length = ar_fi S.1 p := by
  rw [cs_fnd_list S.1 0]
  · simp
  · intro j r hj
    have := h.2.2.2.2.1 j r hj
    rw [Nat.zero_add, ← this]
    rfl
/-- Store.find -/
theorem g28' (p : Int32) (h : cs_rep b pi S I R) : mj_G pj_P 28 [.ref b, .int p] (mz_SH L, I, R) (fun r => r = (some (va_rf ((ar_fi S.1 p).map (cs_row b pi))), (mz_SH L, I, R))) := by
  have := g28 (L := L) p h.1 h.2.1 h.2.2.1.1 h.2.2.1.2
  rwa [h.fnd p] at this
def ar_has (rs : List ty_rw) (p : Int32) : Bool := rs.any (fun r => decide (r.1 = p))
theorem ar_fi_some {rs : List ty_rw} {p : Int32} {j : Nat} (h : ar_fi rs p = some j) : ∃ r, rs[j]? = some r ∧ r.1 = p := by
  obtain ⟨h1, h2, -⟩ := List.findIdx?_eq_some_iff_getElem.mp h
  exact ⟨rs[j], List.getElem?_eq_getElem h1, of_decide_eq_true h2⟩
theorem ar_fi_has (rs : List ty_rw) (p : Int32) : (ar_fi rs p).isSome = ar_has rs p := by
  unfold ar_fi ar_has
  exact List.findIdx?_isSome
theorem ar_fi_none {rs : List ty_rw} {p : Int32} (h : ar_has rs p = false) : ar_fi rs p = none := by
  rw [← ar_fi_has] at h
  cases hf : ar_fi rs p with
  | none => rfl
  | some j => rw [hf] at h; cases h
theorem cs_rep.has (h : cs_rep b pi S I R) (p : Int32) : cs_has I b pi S.1.length p = ar_has S.1 p := by
  unfold cs_has
  rw [h.fnd, ar_fi_has]
/-- Store.has -/
theorem g32' (p : Int32) (h : cs_rep b pi S I R) : mj_G pj_P 32 [.ref b, .int p] (mz_SH L, I, R) (fun r => r = (some (.int (pz (ar_has S.1 p))), (mz_SH L, I, R))) := by
  have := g32 (L := L) p h.1 h.2.1 h.2.2.1.1 h.2.2.1.2
  rwa [h.has p] at this
end RP
