/-! ===== the model: a side of it as lists ===== -/
/-- the row at k -/
def mr_at (I : Nat → Nat → Int32) (k : Nat) (r : ty_rw) : Prop := I 88 k = r.1 ∧ I 89 k = pz (decide (r.2.1 = 2)) ∧ I 90 k = r.2.2.1 ∧ I 91 k = r.2.2.2.1 ∧ I 92 (3 * k) = r.2.2.2.2.1 ∧ I 92 (3 * k + 1) = r.2.2.2.2.2.1 ∧ I 92 (3 * k + 2) = r.2.2.2.2.2.2
/-- the lock at l -/
def ml_at (I : Nat → Nat → Int32) (l : Nat) (q : ty_lk) : Prop := I 93 l = q.1 ∧ I 94 l = q.2.1 ∧ I 95 l = pz q.2.2.2.1 ∧ I 96 l = pz q.2.2.2.2 ∧ I 97 l = q.2.2.1
/-- nothing but the row at k, the lock at l, has changed -/
def fr_K (k : Nat) (I I' : Nat → Nat → Int32) : Prop := ∀ x j, ¬ ((88 ≤ x ∧ x ≤ 91) ∧ j = k) → ¬ (x = 92 ∧ 3 * k ≤ j ∧ j < 3 * k + 3) → I' x j = I x j
def fr_Q (l : Nat) (I I' : Nat → Nat → Int32) : Prop := ∀ x j, ¬ ((93 ≤ x ∧ x ≤ 97) ∧ j = l) → I' x j = I x j
theorem mr_at.fr {I I' : Nat → Nat → Int32} {k k' : Nat} {r : ty_rw} (h : mr_at I k' r) (hf : fr_K k I I') (hk : k' ≠ k) : mr_at I' k' r := by
  obtain ⟨h0, h1, h2, h3, h4, h5, h6⟩ := h
  refine ⟨?_, ?_, ?_, ?_, ?_, ?_, ?_⟩ <;> rw [hf _ _ (by omega) (by omega)] <;> assumption
theorem mr_at.eq {I I' : Nat → Nat → Int32} {k : Nat} {r : ty_rw} (h : mr_at I k r) (hf : ∀ x j, 88 ≤ x → x ≤ 92 → I' x j = I x j) : mr_at I' k r := by
  obtain ⟨h0, h1, h2, h3, h4, h5, h6⟩ := h
  refine ⟨?_, ?_, ?_, ?_, ?_, ?_, ?_⟩ <;> rw [hf _ _ (by omega) (by omega)] <;> assumption
theorem ml_at.fr {I I' : Nat → Nat → Int32} {l l' : Nat} {q : ty_lk} (h : ml_at I l' q) (hf : fr_Q l I I') (hk : l' ≠ l) : ml_at I' l' q := by
  obtain ⟨h0, h1, h2, h3, h4⟩ := h
  refine ⟨?_, ?_, ?_, ?_, ?_⟩ <;> rw [hf _ _ (by omega)] <;> assumption
theorem ml_at.eq {I I' : Nat → Nat → Int32} {l : Nat} {q : ty_lk} (h : ml_at I l q) (hf : ∀ x j, 93 ≤ x → x ≤ 97 → I' x j = I x j) : ml_at I' l q := by
  obtain ⟨h0, h1, h2, h3, h4⟩ := h
  refine ⟨?_, ?_, ?_, ?_, ?_⟩ <;> rw [hf _ _ (by omega) (by omega)] <;> assumption
/-- side s holds T -/
def md_rep (s : Nat) (T : ty_st) (I : Nat → Nat → Int32) : Prop :=
  (s = 0 ∨ s = 1) ∧ (I 98 (5 * s) = nI T.1.length ∧ T.1.length ≤ 13) ∧ (I 98 (5 * s + 1) = nI T.2.1.length ∧ T.2.1.length ≤ 6) ∧ (∀ i r, T.1[i]? = some r → mr_at I (20 * s + i) r) ∧ (∀ i l, T.2.1[i]? = some l → ml_at I (10 * s + i) l) ∧ I 98 (5 * s + 2) = T.2.2.1 ∧ I 98 (5 * s + 3) + 1 = T.2.2.2.1 ∧ I 98 (5 * s + 4) + 1 = T.2.2.2.2
/-- the tokens that are submitted -/
def sb_rep (ts : List Int32) (I : Nat → Nat → Int32) : Prop := (I 87 17 = nI ts.length ∧ ts.length ≤ 12) ∧ ∀ i t, ts[i]? = some t → I 100 i = t
def sb_of (ts : List Int32) (t : Int32) : Bool := ts.any (fun x => decide (x = t))
section MR
variable {L s : Nat} {T : ty_st} {ts : List Int32} {I I' : Nat → Nat → Int32} {R : Nat → Nat → Option Nat}
theorem md_rep.eq (h : md_rep s T I) (hf : ∀ x j, 88 ≤ x → x ≤ 98 → I' x j = I x j) : md_rep s T I' := by
  obtain ⟨h0, ⟨a1, a2⟩, ⟨b1, b2⟩, hr, hl, c1, c2, c3⟩ := h
  refine ⟨h0, ⟨?_, a2⟩, ⟨?_, b2⟩, fun i r hi => (hr i r hi).eq (fun x j h1 h2 => hf x j h1 (by omega)), fun i l hi => (hl i l hi).eq (fun x j h1 h2 => hf x j (by omega) (by omega)), ?_, ?_, ?_⟩ <;> rw [hf _ _ (by omega) (by omega)] <;> assumption
theorem mf_fnd_none {sd : Nat} {p : Int32} : ∀ (k i : Nat) (acc : Option Nat), (∀ j, i ≤ j → j < i + k → I 88 (sd + j) ≠ p) → mf_fnd I sd p i k acc = acc := by
  intro k
  induction k with
  | zero => intro i acc _; rfl
  | succ k ih =>
    intro i acc h
    simp only [mf_fnd]
    rw [if_neg (h i (Nat.le_refl _) (by omega))]
    exact ih (i + 1) acc (fun j h1 h2 => h j (by omega) (by omega))
theorem mf_fnd_some {sd : Nat} {p : Int32} : ∀ (k i : Nat) (acc : Option Nat) (j : Nat), i ≤ j → j < i + k → I 88 (sd + j) = p → ∃ j', mf_fnd I sd p i k acc = some j' := by
  intro k
  induction k with
  | zero => intro i acc j h1 h2; omega
  | succ k ih =>
    intro i acc j h1 h2 h3
    simp only [mf_fnd]
    by_cases hij : i = j
    · subst hij
      rw [if_pos h3]
      clear ih h1 h2 h3
      generalize i + 1 = a
      have : ∀ (k a i : Nat), ∃ j', mf_fnd I sd p a k (some i) = some j' := by
        intro k
        induction k with
        | zero => intro a i; exact ⟨i, rfl⟩
        | succ k ih => intro a i; simp only [mf_fnd]; split; exact ih _ _; exact ih _ _
      exact this k a i
    · exact ih (i + 1) _ j (by omega) (by omega) h3
theorem md_rep.fnd (h : md_rep s T I) (hn : ar_nd T.1) (p : Int32) : mf_fnd I (20 * s) p 0 T.1.length none = ar_fi T.1 p := by
  have hp : ∀ j r, T.1[j]? = some r → I 88 (20 * s + j) = r.1 := fun j r hj => (h.2.2.2.1 j r hj).1
  cases hf : ar_fi T.1 p with
  | none =>
    refine mf_fnd_none _ _ _ (fun j h1 h2 => ?_)
    have hj : T.1[j]? = some T.1[j] := List.getElem?_eq_getElem (by omega)
    rw [hp j _ hj]
    have := ar_fi_getN hf
    intro e
    have := List.find?_eq_none.mp this _ (List.getElem_mem (show j < T.1.length by omega))
    simp [e] at this
  | some j =>
    obtain ⟨r, hr, e⟩ := ar_fi_some hf
    have hjl := (List.getElem?_eq_some_iff.mp hr).1
    obtain ⟨j', hj'⟩ := mf_fnd_some (I := I) (sd := 20 * s) (p := p) T.1.length 0 none j (by omega) (by omega) (by rw [hp j r hr]; exact e)
    rw [hj']
    obtain ⟨h1, h2⟩ := mf_fnd_lt hj'
    have hr' : T.1[j']? = some T.1[j'] := List.getElem?_eq_getElem h1
    rw [hp j' _ hr'] at h2
    have e2 := kf_uniq (k := fun r : ty_rw => r.1) hn (List.getElem_mem h1) (List.mem_of_getElem? hr) (h2.trans e.symm)
    rcases Nat.lt_trichotomy j' j with hlt | heq | hlt
    · exfalso
      have := List.pairwise_iff_getElem.mp hn j' j h1 hjl hlt
      have e3 : T.1[j] = r := (List.getElem?_eq_some_iff.mp hr).2
      rw [e3, e2] at this
      exact this rfl
    · rw [heq]
    · exfalso
      have := List.pairwise_iff_getElem.mp hn j j' hjl h1 hlt
      have e3 : T.1[j] = r := (List.getElem?_eq_some_iff.mp hr).2
      rw [e3, e2] at this
      exact this rfl
/-- find -/
theorem g101' (p : Int32) (hm : mm_ok R) (h : md_rep s T I) (hn : ar_nd T.1) : mj_G pj_P 101 [.ref 87, .int p, .int (nI (20 * s))] (mz_SH L, I, R) (fun r => r = (some (.int (mv_ix (20 * s) (ar_fi T.1 p))), (mz_SH L, I, R))) := by
  have hs := h.1
  have := g101 (L := L) (I := I) (R := R) (sd := 20 * s) (n := T.1.length) p hm (by omega) (by rw [show 20 * s / 4 = 5 * s by omega]; exact h.2.1.1) h.2.1.2
  rwa [h.fnd hn] at this
theorem md_rep.lk (h : md_rep 0 T I) (hs : sb_rep ts I) : mm_lk T.2.1.length ts.length (lx_dp T.2.1) I := by
  obtain ⟨-, -, ⟨b1, b2⟩, -, hl, -⟩ := h
  refine ⟨⟨b1, b2⟩, hs.1, ?_⟩
  intro l hlt
  have e : T.2.1[l]? = some T.2.1[l] := List.getElem?_eq_getElem hlt
  have := (hl l _ e).2.2.2.1
  rw [Nat.mul_zero, Nat.zero_add] at this
  rw [this]
  simp only [lx_dp, e]
theorem md_rep.cov (h : md_rep 0 T I) (p : Int32) {j : Nat} {l : ty_lk} (hj : T.2.1[j]? = some l) : mm_cov I (lx_dp T.2.1) p j = a_cov p l := by
  have := (h.2.2.2.2.1 j l hj).2.1
  rw [Nat.mul_zero, Nat.zero_add] at this
  simp only [mm_cov, a_cov, lx_dp, hj, this]
  rw [show decide (l.2.1 = p) = decide (p = l.2.1) from by simp only [eq_comm]]
theorem sb_rep.sub (hs : sb_rep ts I) (t : Int32) : mm_sub I ts.length t = sb_of ts t := by
  unfold mm_sub sb_of
  refine pa_any_list _ _ (fun j x hj => ?_)
  rw [Nat.zero_add, hs.2 j x hj]
theorem md_rep.bar (h : md_rep 0 T I) (hs : sb_rep ts I) (p : Int32) : mm_bar I (lx_dp T.2.1) T.2.1.length ts.length p = a_bar T.2.1 (sb_of ts) p := by
  unfold mm_bar a_bar
  congr 1
  · exact pa_any_list _ _ (fun j l hj => by rw [Nat.zero_add]; exact h.cov p hj)
  · congr 1
    refine pa_any_list _ _ (fun j l hj => ?_)
    have := (h.2.2.2.2.1 j l hj).1
    rw [Nat.mul_zero, Nat.zero_add] at this
    rw [Nat.zero_add]
    simp only [mm_csb, h.cov p hj, hs.sub, this]
/-- barred -/
theorem g105' (p : Int32) (hm : mm_ok R) (h : md_rep 0 T I) (hs : sb_rep ts I) : mj_G pj_P 105 [.ref 87, .int p] (mz_SH L, I, R) (fun r => r = (some (.int (pz (a_bar T.2.1 (sb_of ts) p))), (mz_SH L, I, R))) := by
  have := g105 (L := L) p hm (h.lk hs)
  rwa [h.bar hs] at this
theorem md_rep.cli (h : md_rep 0 T I) (hs : sb_rep ts I) (p : Int32) : mm_cli I (lx_dp T.2.1) T.2.1.length ts.length p = a_clg T.2.1 (sb_of ts) p := by
  unfold mm_cli a_clg
  rw [h.bar hs, h.bar hs]
theorem g114' (p : Int32) (hm : mm_ok R) (h : md_rep 0 T I) (hs : sb_rep ts I) : mj_G pj_P 114 [.ref 87, .int p] (mz_SH L, I, R) (fun r => r = (some (.int (pz (a_clg T.2.1 (sb_of ts) p))), (mz_SH L, I, R))) := by
  have := g114 (L := L) p hm (h.lk hs)
  rwa [h.cli hs] at this
theorem md_rep.pth (h : md_rep 0 T I) {j : Nat} {r : ty_rw} (hj : T.1[j]? = some r) : I 88 j = r.1 := by
  have := (h.2.2.2.1 j r hj).1
  rwa [Nat.mul_zero, Nat.zero_add] at this
theorem g120' (p : Int32) (hm : mm_ok R) (h : md_rep 0 T I) (hs : sb_rep ts I) : mj_G pj_P 120 [.ref 87, .int p] (mz_SH L, I, R) (fun r => r = (some (.int (pz (a_bar T.2.1 (sb_of ts) p || (a_bar T.2.1 (sb_of ts) (p / 8) || T.1.any (fun r => pf_below r.1 p && a_bar T.2.1 (sb_of ts) r.1))))), (mz_SH L, I, R))) := by
  have := g120 (L := L) p hm (h.lk hs) h.2.1.1 h.2.1.2
  have e : mm_aba I (lx_dp T.2.1) T.1.length T.2.1.length ts.length p = (a_bar T.2.1 (sb_of ts) p || (a_bar T.2.1 (sb_of ts) (p / 8) || T.1.any (fun r => pf_below r.1 p && a_bar T.2.1 (sb_of ts) r.1))) := by
    unfold mm_aba
    rw [h.bar hs, h.bar hs]
    congr 2
    refine pa_any_list _ _ (fun j r hj => ?_)
    rw [Nat.zero_add]
    simp only [mm_abf, h.pth hj, h.bar hs]
  rwa [e] at this
theorem g115' (x p : Int32) (hm : mm_ok R) (h : md_rep 0 T I) (hs : sb_rep ts I) : mj_G pj_P 115 [.ref 87, .int x, .int p] (mz_SH L, I, R) (fun s => s = (some (.int (pz ((!decide (x = p) && a_clg T.2.1 (sb_of ts) x) || T.1.any (fun r => pf_below r.1 x && a_clg T.2.1 (sb_of ts) r.1)))), (mz_SH L, I, R))) := by
  have := g115 (L := L) x p hm (h.lk hs) h.2.1.1 h.2.1.2
  have e : mm_rem I (lx_dp T.2.1) T.1.length T.2.1.length ts.length x p = ((!decide (x = p) && a_clg T.2.1 (sb_of ts) x) || T.1.any (fun r => pf_below r.1 x && a_clg T.2.1 (sb_of ts) r.1)) := by
    unfold mm_rem
    rw [h.cli hs]
    congr 1
    refine pa_any_list _ _ (fun j r hj => ?_)
    rw [Nat.zero_add]
    simp only [mm_ref, h.pth hj, h.cli hs]
  rwa [e] at this
def mx_fo (rs : List ty_rw) (i : Nat) : Bool := match rs[i]? with
  | some r => decide (r.2.1 = 2)
  | none => false
theorem md_rep.fo (h : md_rep 0 T I) : ∀ i, i < T.1.length → I 89 i = pz (mx_fo T.1 i) := by
  intro i hi
  have e : T.1[i]? = some T.1[i] := List.getElem?_eq_getElem hi
  have := (h.2.2.2.1 i _ e).2.1
  rw [Nat.mul_zero, Nat.zero_add] at this
  rw [this]
  simp only [mx_fo, e]
theorem md_rep.fol (h : md_rep 0 T I) (hn : ar_nd T.1) (p : Int32) : mm_fol I (mx_fo T.1) T.1.length p = a_coll T.1 p := by
  have hf := h.fnd hn p
  rw [Nat.mul_zero] at hf
  unfold mm_fol a_coll
  rw [hf]
  cases hg : ar_fi T.1 p with
  | none => rw [ar_fi_getN hg]
  | some j =>
    obtain ⟨r, hr, -⟩ := ar_fi_some hg
    rw [← ar_fi_get hg, hr]
    simp only [mx_fo, hr]
/-- isFolder -/
theorem g104' (p : Int32) (hm : mm_ok R) (h : md_rep 0 T I) (hn : ar_nd T.1) : mj_G pj_P 104 [.ref 87, .int p] (mz_SH L, I, R) (fun r => r = (some (.int (pz (a_coll T.1 p))), (mz_SH L, I, R))) := by
  have := g104 (L := L) p hm h.2.1.1 h.2.1.2 h.fo
  rwa [h.fol hn] at this
theorem md_rep.cv (h : md_rep s T I) {j : Nat} {l : ty_lk} (hj : T.2.1[j]? = some l) (p : Int32) (hm : mm_ok R) : mj_G pj_P 99 [.ref 87, .int (nI (10 * s + j)), .int p] (mz_SH L, I, R) (fun r => r = (some (.int (pz (a_cov p l))), (mz_SH L, I, R))) := by
  have hs := h.1
  have hjl := (List.getElem?_eq_some_iff.mp hj).1
  have h6 := h.2.2.1.2
  obtain ⟨k0, k1, k2, k3, k4⟩ := h.2.2.2.2.1 j l hj
  have := g99 (L := L) (R := R) (wh := fun _ => l.2.2.2.2) (l := 10 * s + j) p hm (by omega) k3
  have e : mm_cov I (fun _ => l.2.2.2.2) p (10 * s + j) = a_cov p l := by
    simp only [mm_cov, a_cov, k1]
    rw [show decide (l.2.1 = p) = decide (p = l.2.1) from by simp only [eq_comm]]
  rwa [e] at this
/-- isSubmitted -/
theorem g106' (t : Int32) (hm : mm_ok R) (hs : sb_rep ts I) : mj_G pj_P 106 [.ref 87, .int t] (mz_SH L, I, R) (fun r => r = (some (.int (pz (sb_of ts t))), (mz_SH L, I, R))) := by
  have := g106 (L := L) t hm hs.1.1 hs.1.2
  rwa [hs.sub] at this
end MR
