section HE
variable {z : Int32 × Int32} {hs : List Int32}
theorem rn_ge : ∀ (cs : List Int32) (v : Int32) (d : Nat), d ≤ (rn_go cs v d).2 ∧ (rn_go cs v d).2 ≤ d + cs.length := by
  intro cs
  induction cs with
  | nil => intro v d; exact ⟨Nat.le_refl _, Nat.le_refl _⟩
  | cons c cs ih =>
    intro v d
    simp only [rn_go, List.length_cons]
    split
    · have := ih (if d < 4 then 10 * v + c - 48 else v) (d + 1)
      omega
    · exact ⟨Nat.le_refl _, by omega⟩
/-- behind the digits stands none -/
theorem rn_nx : ∀ (cs : List Int32) (v : Int32) (d : Nat) (c : Int32), cs[(rn_go cs v d).2 - d]? = some c → pf_dig c = false := by
  intro cs
  induction cs with
  | nil => intro v d c h; simp at h
  | cons a cs ih =>
    intro v d c h
    simp only [rn_go] at h
    split at h
    · have h1 := (rn_ge cs (if d < 4 then 10 * v + a - 48 else v) (d + 1)).1
      have h2 := ih (if d < 4 then 10 * v + a - 48 else v) (d + 1) c
      apply h2
      rw [show (rn_go cs (if d < 4 then 10 * v + a - 48 else v) (d + 1)).2 - d = (rn_go cs (if d < 4 then 10 * v + a - 48 else v) (d + 1)).2 - (d + 1) + 1 by omega] at h
      simpa using h
    · rename_i hd
      simp only [Nat.sub_self, List.getElem?_cons_zero, Option.some.injEq] at h
      rw [← h]
      simpa using hd
theorem hd_drop {i : Nat} {c : Int32} (h : hs[i]? = some c) : hs.drop i = c :: hs.drop (i + 1) := by
  have hi := (List.getElem?_eq_some_iff.mp h).1
  rw [List.drop_eq_getElem_cons hi, (List.getElem?_eq_some_iff.mp h).2]
theorem hd_drop0 {i : Nat} (h : hs[i]? = none) : hs.drop i = [] := List.drop_eq_nil_of_le (List.getElem?_eq_none_iff.mp h)
/-- more digits: F is what the header is after d of them -/
theorem rn_fam {F : Nat → Int32 → Nat → ty_hd} (h1 : ∀ i v d c, pf_dig c = true → 1 ≤ d → d < 4 → hd_one (F i v d) c = F (i + 1) (v * 10 + (c - 48)) (d + 1)) (h2 : ∀ i v c, pf_dig c = true → (hd_one (F i v 4) c).2.2.2.1 = 8) :
    ∀ (k i : Nat) (v : Int32) (d : Nat), i + k = hs.length → 1 ≤ d → d ≤ 4 → hd_at z hs i = F i v d → ((rn_go (hs.drop i) v d).2 ≤ 4 → hd_at z hs (i + ((rn_go (hs.drop i) v d).2 - d)) = F (i + ((rn_go (hs.drop i) v d).2 - d)) (rn_go (hs.drop i) v d).1 (rn_go (hs.drop i) v d).2) ∧ (4 < (rn_go (hs.drop i) v d).2 → hd_gd z hs = false) := by
  intro k
  induction k with
  | zero =>
    intro i v d hi hd1 hd4 hA
    rw [hd_drop0 (List.getElem?_eq_none (by omega))]
    simp only [rn_go, Nat.sub_self, Nat.add_zero]
    exact ⟨fun _ => hA, fun h => by omega⟩
  | succ k ih =>
    intro i v d hi hd1 hd4 hA
    have hc : hs[i]? = some hs[i] := List.getElem?_eq_getElem (by omega)
    rw [hd_drop hc]
    generalize hs[i] = c at hc
    simp only [rn_go]
    cases hdc : pf_dig c
    · simp only [Bool.false_eq_true, if_false, Nat.sub_self, Nat.add_zero]
      exact ⟨fun _ => hA, fun h => by omega⟩
    · simp only [if_true]
      rcases Nat.lt_or_ge d 4 with hlt | hge
      · have hA1 : hd_at z hs (i + 1) = F (i + 1) (10 * v + c - 48) (d + 1) := by
          rw [hd_at_s hc, hA, h1 _ _ _ _ hdc hd1 hlt, rn_val]
        have := ih (i + 1) (10 * v + c - 48) (d + 1) (by omega) (by omega) (by omega) hA1
        rw [if_pos hlt]
        have hge := (rn_ge (hs.drop (i + 1)) (10 * v + c - 48) (d + 1)).1
        rw [show i + ((rn_go (hs.drop (i + 1)) (10 * v + c - 48) (d + 1)).2 - d) = i + 1 + ((rn_go (hs.drop (i + 1)) (10 * v + c - 48) (d + 1)).2 - (d + 1)) by omega]
        exact this
      · have hd : d = 4 := by omega
        subst hd
        have hge := (rn_ge (hs.drop (i + 1)) v (4 + 1)).1
        rw [if_neg (by decide)]
        refine ⟨fun h => by omega, fun _ => hd_bad8 (i := i + 1) (by omega) ?_⟩
        rw [hd_at_s hc, hA]
        exact h2 _ _ _ hdc
/-- a whole number, from the state before its first digit -/
theorem rn_all {F : Nat → Int32 → Nat → ty_hd} (h1 : ∀ i v d c, pf_dig c = true → 1 ≤ d → d < 4 → hd_one (F i v d) c = F (i + 1) (v * 10 + (c - 48)) (d + 1)) (h2 : ∀ i v c, pf_dig c = true → (hd_one (F i v 4) c).2.2.2.1 = 8) {i : Nat} (hi : i ≤ hs.length) (h0 : ∀ c, pf_dig c = true → hd_one (hd_at z hs i) c = F (i + 1) (0 * 10 + (c - 48)) 1) (hb : ∀ c, pf_dig c = false → (hd_one (hd_at z hs i) c).2.2.2.1 = 8) (hs0 : (hd_at z hs i).2.2.2.1 ≠ 0 ∧ (hd_at z hs i).2.2.2.1 ≠ 7) :
    ((1 ≤ (rn_go (hs.drop i) 0 0).2 ∧ (rn_go (hs.drop i) 0 0).2 ≤ 4) → hd_at z hs (i + (rn_go (hs.drop i) 0 0).2) = F (i + (rn_go (hs.drop i) 0 0).2) (rn_go (hs.drop i) 0 0).1 (rn_go (hs.drop i) 0 0).2) ∧ (¬ (1 ≤ (rn_go (hs.drop i) 0 0).2 ∧ (rn_go (hs.drop i) 0 0).2 ≤ 4) → hd_gd z hs = false) := by
  cases hc : hs[i]? with
  | none =>
    rw [hd_drop0 hc]
    simp only [rn_go]
    exact ⟨fun h => by omega, fun _ => hd_bad hi (Or.inl hs0) (fun c hc' => by rw [hc] at hc'; cases hc')⟩
  | some c =>
    have hlt := (List.getElem?_eq_some_iff.mp hc).1
    rw [hd_drop hc]
    simp only [rn_go]
    cases hdc : pf_dig c
    · simp only [Bool.false_eq_true, if_false]
      exact ⟨fun h => by omega, fun _ => hd_bad hi (Or.inl hs0) (fun c' hc' => by rw [hc] at hc'; cases hc'; exact hb c hdc)⟩
    · simp only [if_true, show (0 : Nat) < 4 from by decide, Nat.zero_add]
      have hA1 : hd_at z hs (i + 1) = F (i + 1) (10 * 0 + c - 48) 1 := by rw [hd_at_s hc, h0 c hdc, rn_val]
      have := rn_fam h1 h2 (hs.length - (i + 1)) (i + 1) (10 * 0 + c - 48) 1 (by omega) (by omega) (by omega) hA1
      have hge := (rn_ge (hs.drop (i + 1)) (10 * 0 + c - 48) 1).1
      rw [show i + 1 + ((rn_go (hs.drop (i + 1)) (10 * 0 + c - 48) 1).2 - 1) = i + (rn_go (hs.drop (i + 1)) (10 * 0 + c - 48) 1).2 by omega] at this
      exact ⟨fun h => this.1 h.2, fun h => this.2 (by omega)⟩
/-- a number of a group -/
def hf_grp (C : List ty_cd) (lc gp : Int32) (i : Nat) (v : Int32) (d : Nat) : ty_hd := (C, lc, i, 2, gp, v, nI d)
def hf_cnd (C : List ty_cd) (c : Int32 × Int32 × Bool × Bool) (lc gp : Int32) (i : Nat) (v : Int32) (d : Nat) : ty_hd := (C ++ [(c.1, c.2.1, c.2.2.1, c.2.2.2, v)], lc, i, 6, gp, v, nI d)
theorem nI_4 {d : Nat} (h : d < 4) : ¬ (4 : Int32) ≤ nI d := by rw [show (4 : Int32) = nI 4 from rfl, nI_le_iff (by omega) (by omega)]; omega
theorem hf_grp_1 {C : List ty_cd} {lc gp : Int32} (i : Nat) (v : Int32) (d : Nat) (c : Int32) (hc : pf_dig c = true) (_ : 1 ≤ d) (hd : d < 4) : hd_one (hf_grp C lc gp i v d) c = hf_grp C lc gp (i + 1) (v * 10 + (c - 48)) (d + 1) := by
  simp only [hd_one, hf_grp, hd_aft, hc, if_true, hd_dig]
  rw [if_neg (by decide), if_pos (by decide)]
  simp only [hd_dg2]
  rw [if_neg (nI_4 hd), if_pos (by decide), nI_succ]
theorem hf_grp_2 {C : List ty_cd} {lc gp : Int32} (i : Nat) (v : Int32) (c : Int32) (hc : pf_dig c = true) : (hd_one (hf_grp C lc gp i v 4) c).2.2.2.1 = 8 := by
  simp only [hd_one, hf_grp, hd_aft, hc, if_true, hd_dig]
  rw [if_neg (by decide), if_pos (by decide)]
  simp only [hd_dg2]
  rw [if_pos (by decide)]
theorem hf_cnd_1 {C : List ty_cd} {q : Int32 × Int32 × Bool × Bool} {lc gp : Int32} (i : Nat) (v : Int32) (d : Nat) (c : Int32) (hc : pf_dig c = true) (_ : 1 ≤ d) (hd : d < 4) : hd_one (hf_cnd C q lc gp i v d) c = hf_cnd C q lc gp (i + 1) (v * 10 + (c - 48)) (d + 1) := by
  simp only [hd_one, hf_cnd, hd_aft, hc, if_true, hd_dig]
  rw [if_neg (by decide), if_pos (by decide)]
  simp only [hd_dg2]
  rw [if_neg (nI_4 hd), if_neg (by decide), nI_succ, cd_lst_app]
theorem hf_cnd_2 {C : List ty_cd} {q : Int32 × Int32 × Bool × Bool} {lc gp : Int32} (i : Nat) (v : Int32) (c : Int32) (hc : pf_dig c = true) : (hd_one (hf_cnd C q lc gp i v 4) c).2.2.2.1 = 8 := by
  simp only [hd_one, hf_cnd, hd_aft, hc, if_true, hd_dig]
  rw [if_neg (by decide), if_pos (by decide)]
  simp only [hd_dg2]
  rw [if_pos (by decide)]
/-- a digit in a state that wants none, any other character in a state that wants digits -/
theorem hd_no15 {H : ty_hd} (h : H.2.2.2.1 = 1 ∨ H.2.2.2.1 = 5) (c : Int32) (hc : pf_dig c = false) : (hd_one H c).2.2.2.1 = 8 := by
  simp only [hd_one, hd_aft, hc, Bool.false_eq_true, if_false, hd_sla, hd_opn, hd_let, hd_st]
  rcases h with h | h <;> simp only [h] <;> (repeat' split) <;> simp_all
theorem hd_no2 {H : ty_hd} (h : H.2.2.2.1 = 2) (c : Int32) (hc : pf_dig c = false) (hp : c = 40 → pf_path H.2.2.2.2.2.1 = false) : (hd_one H c).2.2.2.1 = 8 := by
  simp only [hd_one, hd_aft, hc, Bool.false_eq_true, if_false, hd_sla, hd_opn, hd_let, hd_st]
  simp only [h]
  (repeat' split) <;> simp_all
theorem hd_no36 {H : ty_hd} (h : H.2.2.2.1 = 3 ∨ H.2.2.2.1 = 6) (c : Int32) (hn : pf_named c = true) (hd : H.2.2.2.1 = 6 → pf_dig c = false) (h1 : c ≠ 41) (h2 : c ≠ 33) (h3 : c ≠ 116) (h4 : c ≠ 101) : (hd_one H c).2.2.2.1 = 8 := by
  unfold pf_named at hn
  simp only [h1, h2, h3, h4, decide_false, Bool.or_false, Bool.or_eq_true, decide_eq_true_eq] at hn
  simp only [hd_one, hd_aft, h1, h2, if_false, hd_sla, hd_opn, hd_let, hd_st, hd_dig]
  rcases h with h | h <;> simp only [h] at hd ⊢
  · (repeat' split) <;> simp_all
  · simp only [forall_const] at hd
    (repeat' split) <;> simp_all
theorem hd_no3c {H : ty_hd} (h : H.2.2.2.1 = 3) : (hd_one H 41).2.2.2.1 = 8 := by
  simp only [hd_one, hd_aft, hd_st, h]
  rw [if_neg (by decide), if_neg (by decide), if_neg (by decide), if_pos trivial, if_neg (by decide)]
theorem hd_no4 {H : ty_hd} (h : H.2.2.2.1 = 4) (c : Int32) (hn : pf_named c = true) (h3 : c ≠ 116) (h4 : c ≠ 101) : (hd_one H c).2.2.2.1 = 8 := by
  unfold pf_named at hn
  simp only [h3, h4, decide_false, Bool.or_false, Bool.or_eq_true, decide_eq_true_eq] at hn
  simp only [hd_one, hd_aft, hd_sla, hd_opn, hd_let, hd_st, hd_dig]
  simp only [h]
  (repeat' split) <;> simp_all
theorem hd_no07 {H : ty_hd} (h : H.2.2.2.1 = 0 ∨ H.2.2.2.1 = 7) (c : Int32) (h1 : c ≠ 40) (h2 : c = 47 → H.2.2.2.1 = 7 ∧ H.2.2.2.2.1 = -1) : (hd_one H c).2.2.2.1 = 8 := by
  simp only [hd_one, hd_aft, h1, if_false, hd_sla, hd_opn, hd_let, hd_st, hd_dig]
  rcases h with h | h <;> simp only [h] at h2 ⊢
  · (repeat' split) <;> simp_all
  · (repeat' split) <;> simp_all
theorem hd_yes_sla {C : List ty_cd} {lc gp s : Int32} {i : Nat} {y : Int32 × Int32} (h : s = 0 ∨ (s = 7 ∧ gp ≠ -1)) : hd_one (C, lc, i, s, gp, y) 47 = (C, lc, i + 1, 1, gp, y) := by
  simp only [hd_one, hd_aft, hd_sla, hd_st]
  rw [if_neg (by decide), if_pos (by decide), if_pos h]
theorem hd_yes_opn {C : List ty_cd} {lc gp s : Int32} {i : Nat} {y : Int32 × Int32} (h : s = 0 ∨ s = 7) : hd_one (C, lc, i, s, gp, y) 40 = (C, lc + 1, i + 1, 3, gp, y) := by
  simp only [hd_one, hd_aft, hd_opn]
  rw [if_neg (by decide), if_neg (by decide), if_pos (by decide), if_neg (by rintro ⟨h1, -⟩; rcases h with h | h <;> rw [h] at h1 <;> exact absurd h1 (by decide)), if_pos h]
theorem hd_yes_opn2 {C : List ty_cd} {lc gp v w : Int32} {i : Nat} (h : pf_path v = true) : hd_one (C, lc, i, 2, gp, v, w) 40 = (C, lc + 1, i + 1, 3, v, v, w) := by
  simp only [hd_one, hd_aft, hd_opn, h]
  rw [if_neg (by decide), if_neg (by decide), if_pos (by decide), if_pos (by decide)]
theorem hd_yes_cls {C : List ty_cd} {lc gp : Int32} {i : Nat} {y : Int32 × Int32} : hd_one (C, lc, i, 6, gp, y) 41 = (C, lc, i + 1, 7, gp, y) := by
  simp only [hd_one, hd_aft, hd_st]
  rw [if_neg (by decide), if_neg (by decide), if_neg (by decide), if_pos (by decide), if_pos trivial]
theorem hd_yes_not {C : List ty_cd} {lc gp s : Int32} {i : Nat} {y : Int32 × Int32} (h : s = 3 ∨ s = 6) : hd_one (C, lc, i, s, gp, y) 33 = (C, lc, i + 1, 4, gp, y) := by
  simp only [hd_one, hd_aft, hd_st]
  rw [if_neg (by decide), if_neg (by decide), if_neg (by decide), if_neg (by decide), if_pos (by decide), if_pos h]
theorem hd_yes_let {C : List ty_cd} {lc gp s c : Int32} {i : Nat} {y : Int32 × Int32} (h : s = 3 ∨ s = 6 ∨ s = 4) (hl : C.length < 12) (hc : c = 116 ∨ c = 101) : hd_one (C, lc, i, s, gp, y) c = (C ++ [(lc, gp, decide (c = 116), decide (s = 4), 0)], lc, i + 1, 5, gp, y) := by
  simp only [hd_one, hd_aft, hd_let]
  rcases hc with rfl | rfl
  · rw [if_neg (by decide), if_neg (by decide), if_neg (by decide), if_neg (by decide), if_neg (by decide), if_pos ⟨h, hl⟩]
  · rw [if_neg (by decide), if_neg (by decide), if_neg (by decide), if_neg (by decide), if_neg (by decide), if_pos ⟨h, hl⟩]
end HE
