section HF
variable {z : Int32 × Int32} {hs : List Int32}
/-- a condition is read: from i (the state wants one), C the conditions before it -/
def hp_i1 (hs : List Int32) (i : Nat) : Nat := if hs[i]? = some 33 then i + 1 else i
def hp_rn (hs : List Int32) (i : Nat) : Int32 × Nat := rn_go (hs.drop (hp_i1 hs i + 1)) 0 0
theorem hp_cond {C : List ty_cd} {lc gp s : Int32} {y : Int32 × Int32} {i : Nat} (hn : ∀ c ∈ hs, pf_named c = true) (h24 : hs.length ≤ 24) (hA : hd_at z hs i = (C, lc, i, s, gp, y)) (hs36 : s = 3 ∨ s = 6) (hC : 2 * C.length + 1 ≤ i) (hi : i < hs.length) (hd : s = 6 → ∀ c, hs[i]? = some c → pf_dig c = false) (h41 : hs[i]? ≠ some 41) :
    (¬ (hs[hp_i1 hs i]? = some 116 ∨ hs[hp_i1 hs i]? = some 101) → hd_gd z hs = false) ∧
    ((hs[hp_i1 hs i]? = some 116 ∨ hs[hp_i1 hs i]? = some 101) → hp_i1 hs i + 1 + (hp_rn hs i).2 ≤ hs.length ∧ (∀ c, hs[hp_i1 hs i + 1 + (hp_rn hs i).2]? = some c → pf_dig c = false) ∧
      (¬ (1 ≤ (hp_rn hs i).2 ∧ (hp_rn hs i).2 ≤ 4) → hd_gd z hs = false) ∧
      ((1 ≤ (hp_rn hs i).2 ∧ (hp_rn hs i).2 ≤ 4) → hd_at z hs (hp_i1 hs i + 1 + (hp_rn hs i).2) = (C ++ [(lc, gp, decide (hs[hp_i1 hs i]? = some 116), decide (hs[i]? = some 33), (hp_rn hs i).1)], lc, hp_i1 hs i + 1 + (hp_rn hs i).2, 6, gp, (hp_rn hs i).1, nI (hp_rn hs i).2))) := by
  have hmem : ∀ j c, hs[j]? = some c → pf_named c = true := fun j c h => hn c (List.mem_of_getElem? h)
  -- the state at the letter
  have hl : ∃ s1, hd_at z hs (hp_i1 hs i) = (C, lc, hp_i1 hs i, s1, gp, y) ∧ hp_i1 hs i ≤ hs.length ∧ (s1 = 3 ∨ s1 = 6 ∨ s1 = 4) ∧ decide (s1 = 4) = decide (hs[i]? = some 33) ∧ ∀ c, hs[hp_i1 hs i]? = some c → c ≠ 116 → c ≠ 101 → (hd_one (C, lc, hp_i1 hs i, s1, gp, y) c).2.2.2.1 = 8 := by
    by_cases h33 : hs[i]? = some 33
    · refine ⟨4, ?_, ?_, Or.inr (Or.inr rfl), by simp [h33], ?_⟩
      · simp only [hp_i1, h33, if_true]
        rw [hd_at_s h33, hA, hd_yes_not hs36]
      · simp only [hp_i1, h33, if_true]; omega
      · intro c hc h1 h2
        exact hd_no4 rfl c (hmem _ _ hc) h1 h2
    · have e : hp_i1 hs i = i := by simp only [hp_i1, h33, if_false]
      rw [e]
      refine ⟨s, hA, by omega, by rcases hs36 with h | h <;> simp [h], ?_, ?_⟩
      · rcases hs36 with rfl | rfl <;> simp [h33]
      · intro c hc h1 h2
        refine hd_no36 (by exact hs36) c (hmem _ _ hc) (fun h => hd h c hc) ?_ ?_ h1 h2
        · intro e2; rw [e2] at hc; exact h41 hc
        · intro e2; rw [e2] at hc; exact h33 hc
  obtain ⟨s1, hA1, hle, hs1, hng, hbad⟩ := hl
  unfold hp_rn
  generalize hp_i1 hs i = i1 at *
  refine ⟨?_, ?_⟩
  · intro hno
    refine hd_bad hle (Or.inl ?_) ?_
    · rw [hA1]
      rcases hs1 with rfl | rfl | rfl <;> (dsimp only; decide)
    · intro c hc
      rw [hA1]
      refine hbad c hc ?_ ?_
      · intro e; rw [e] at hc; exact hno (Or.inl hc)
      · intro e; rw [e] at hc; exact hno (Or.inr hc)
  · intro hyes
    have hi1 : i1 < hs.length := by
      rcases hyes with h | h <;> exact (List.getElem?_eq_some_iff.mp h).1
    have hA2 : hd_at z hs (i1 + 1) = (C ++ [(lc, gp, decide (hs[i1]? = some 116), decide (hs[i]? = some 33), 0)], lc, i1 + 1, 5, gp, y) := by
      rcases hyes with h | h
      · rw [hd_at_s h, hA1, hd_yes_let hs1 (by omega) (Or.inl rfl), hng, h]; rfl
      · rw [hd_at_s h, hA1, hd_yes_let hs1 (by omega) (Or.inr rfl), hng, h]; rfl
    generalize decide (hs[i1]? = some 116) = tk at hA2 ⊢
    generalize decide (hs[i]? = some 33) = ng at hA2 ⊢
    have hge := rn_ge (hs.drop (i1 + 1)) 0 0
    rw [List.length_drop] at hge
    have hnx := rn_nx (hs.drop (i1 + 1)) 0 0
    have hall := rn_all (F := hf_cnd C (lc, gp, tk, ng) lc gp) (z := z) (hs := hs) hf_cnd_1 hf_cnd_2 (i := i1 + 1) (by omega)
      (fun c hc => by
        rw [hA2]
        simp only [hd_one, hf_cnd, hd_aft, hc, if_true, hd_dig]
        rw [if_pos (by decide)]
        simp only [hd_dg2]
        rw [if_neg (by decide), if_neg (by decide), cd_lst_app]
        rfl)
      (fun c hc => hd_no15 (Or.inr (by rw [hA2])) c hc)
      (by rw [hA2]; dsimp only; decide)
    refine ⟨by omega, ?_, hall.2, hall.1⟩
    intro c hc
    refine hnx c ?_
    rw [List.getElem?_drop, Nat.sub_zero]
    exact hc
/-- a group's number is read, from the slash at i -/
theorem hp_group {C : List ty_cd} {lc gp s : Int32} {y : Int32 × Int32} {i : Nat} (hA : hd_at z hs i = (C, lc, i, s, gp, y)) (hs07 : s = 0 ∨ (s = 7 ∧ gp ≠ -1)) (h47 : hs[i]? = some 47) :
    i + 1 + (rn_go (hs.drop (i + 1)) 0 0).2 ≤ hs.length ∧ (∀ c, hs[i + 1 + (rn_go (hs.drop (i + 1)) 0 0).2]? = some c → pf_dig c = false) ∧
      (¬ (1 ≤ (rn_go (hs.drop (i + 1)) 0 0).2 ∧ (rn_go (hs.drop (i + 1)) 0 0).2 ≤ 4) → hd_gd z hs = false) ∧
      ((1 ≤ (rn_go (hs.drop (i + 1)) 0 0).2 ∧ (rn_go (hs.drop (i + 1)) 0 0).2 ≤ 4) → hd_at z hs (i + 1 + (rn_go (hs.drop (i + 1)) 0 0).2) = (C, lc, i + 1 + (rn_go (hs.drop (i + 1)) 0 0).2, 2, gp, (rn_go (hs.drop (i + 1)) 0 0).1, nI (rn_go (hs.drop (i + 1)) 0 0).2)) := by
  have hi := (List.getElem?_eq_some_iff.mp h47).1
  have hA2 : hd_at z hs (i + 1) = (C, lc, i + 1, 1, gp, y) := by rw [hd_at_s h47, hA, hd_yes_sla hs07]
  have hge := rn_ge (hs.drop (i + 1)) 0 0
  rw [List.length_drop] at hge
  have hnx := rn_nx (hs.drop (i + 1)) 0 0
  have hall := rn_all (F := hf_grp C lc gp) (z := z) (hs := hs) hf_grp_1 hf_grp_2 (i := i + 1) (by omega)
    (fun c hc => by
      rw [hA2]
      simp only [hd_one, hf_grp, hd_aft, hc, if_true, hd_dig]
      rw [if_pos (by decide)]
      simp only [hd_dg2]
      rw [if_neg (by decide), if_pos (by decide)]
      rfl)
    (fun c hc => hd_no15 (Or.inl (by rw [hA2])) c hc)
    (by rw [hA2]; dsimp only; decide)
  refine ⟨by omega, ?_, hall.2, hall.1⟩
  intro c hc
  refine hnx c ?_
  rw [List.getElem?_drop, Nat.sub_zero]
  exact hc
/-- a list that opens: the state before it -/
def hp_op (hs : List Int32) (i : Nat) (s gp gp' : Int32) (y : Int32 × Int32) : Prop := ((s = 0 ∨ s = 7) ∧ gp' = gp) ∨ (s = 2 ∧ pf_path y.1 = true ∧ gp' = y.1 ∧ ∀ c, hs[i]? = some c → pf_dig c = false)
theorem hp_open {C : List ty_cd} {lc gp gp' s : Int32} {y : Int32 × Int32} {i : Nat} (hA : hd_at z hs i = (C, lc, i, s, gp, y)) (ho : hp_op hs i s gp gp' y) (h40 : hs[i]? = some 40) : hd_at z hs (i + 1) = (C, lc + 1, i + 1, 3, gp', y) := by
  rw [hd_at_s h40, hA]
  rcases ho with ⟨h, rfl⟩ | ⟨rfl, h, rfl, -⟩
  · exact hd_yes_opn h
  · exact hd_yes_opn2 h
theorem hp_noopen {C : List ty_cd} {lc gp gp' s : Int32} {y : Int32 × Int32} {i : Nat} (hA : hd_at z hs i = (C, lc, i, s, gp, y)) (ho : hp_op hs i s gp gp' y) (h40 : hs[i]? ≠ some 40) (hi : i ≤ hs.length) (hl : s = 2 ∨ i < hs.length) (h47 : hs[i]? = some 47 → s = 2 ∨ (s = 7 ∧ gp = -1)) : hd_gd z hs = false := by
  refine hd_bad hi ?_ ?_
  · rw [hA]
    rcases hl with rfl | hl
    · left; dsimp only; decide
    · exact Or.inr hl
  · intro c hc
    have hc40 : c ≠ 40 := fun e => h40 (by rw [hc, e])
    rw [hA]
    rcases ho with ⟨h, rfl⟩ | ⟨rfl, h, rfl, hd⟩
    · refine hd_no07 (by exact h) c hc40 ?_
      intro e
      rcases h47 (by rw [hc, e]) with h2 | h2
      · rcases h with h | h <;> rw [h] at h2 <;> exact absurd h2 (by decide)
      · exact h2
    · exact hd_no2 rfl c (hd c hc) (fun e => absurd e hc40)
/-- a list that closes -/
theorem hp_close {C : List ty_cd} {lc gp : Int32} {y : Int32 × Int32} {i : Nat} (hA : hd_at z hs i = (C, lc, i, 6, gp, y)) (h41 : hs[i]? = some 41) : hd_at z hs (i + 1) = (C, lc, i + 1, 7, gp, y) := by
  rw [hd_at_s h41, hA, hd_yes_cls]
theorem hp_noclose {C : List ty_cd} {lc gp s : Int32} {y : Int32 × Int32} {i : Nat} (hA : hd_at z hs i = (C, lc, i, s, gp, y)) (hs36 : s = 3 ∨ s = 6) (hi : i ≤ hs.length) (h : hs.length ≤ i ∨ (s = 3 ∧ hs[i]? = some 41)) : hd_gd z hs = false := by
  refine hd_bad hi (Or.inl ?_) ?_
  · rw [hA]
    rcases hs36 with rfl | rfl <;> (dsimp only; decide)
  · intro c hc
    have hlt := (List.getElem?_eq_some_iff.mp hc).1
    rcases h with h | ⟨rfl, h⟩
    · omega
    · rw [h] at hc
      cases hc
      rw [hA]
      exact hd_no3c rfl
theorem hp_good {C : List ty_cd} {lc gp s : Int32} {y : Int32 × Int32} (hA : hd_at z hs hs.length = (C, lc, hs.length, s, gp, y)) (h : s = 0 ∨ s = 7) : hd_gd z hs = true := by
  unfold hd_gd
  rw [hA]
  rcases h with rfl | rfl <;> rfl
/-- one list more -/
theorem a_hol_same {f : ty_cd → Bool} {m : Int32} : ∀ (D : List ty_cd) (lh : Bool), (∀ c ∈ D, c.1 = m) → a_hol f D lh m = (lh && D.all f) := by
  intro D
  induction D with
  | nil => intro lh _; simp [a_hol]
  | cons d D ih =>
    intro lh h
    simp only [a_hol, h d (List.mem_cons_self ..), if_true]
    rw [ih _ (fun c hc => h c (List.mem_cons_of_mem _ hc)), List.all_cons, Bool.and_assoc]
theorem a_hol_app {f : ty_cd → Bool} {m : Int32} {D : List ty_cd} (hD : D ≠ []) (hm : ∀ c ∈ D, c.1 = m) : ∀ (C : List ty_cd) (lh : Bool) (l : Int32), l ≠ m → (∀ c ∈ C, c.1 ≠ m) → a_hol f (C ++ D) lh l = (a_hol f C lh l || D.all f) := by
  intro C
  induction C with
  | nil =>
    intro lh l hl _
    cases D with
    | nil => exact absurd rfl hD
    | cons d D =>
      have hd := hm d (List.mem_cons_self ..)
      simp only [List.nil_append, a_hol, hd]
      rw [if_neg (Ne.symm hl), a_hol_same D (f d) (fun c hc => hm c (List.mem_cons_of_mem _ hc)), List.all_cons]
      cases lh <;> simp
  | cons c C ih =>
    intro lh l hl hC
    simp only [List.cons_append, a_hol]
    have h1 := hC c (List.mem_cons_self ..)
    have h2 : ∀ c ∈ C, c.1 ≠ m := fun c hc => hC c (List.mem_cons_of_mem _ hc)
    split
    · exact ih _ _ hl h2
    · split
      · rfl
      · exact ih _ _ h1 h2
end HF
